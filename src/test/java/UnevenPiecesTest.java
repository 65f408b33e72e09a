/** Pieces that are not alike at all steps, where promises 14, 47, 58 to 63, 69 and 70 look at each step's own. */
public final class UnevenPiecesTest {
    private static final String UP = "41,42,43,44,45,46,47,48,49,50,51,52,53,54,55,56";
    private static final String DOWN = "56,55,54,53,52,51,50,49,48,47,46,45,44,43,42,41";

    private final Checks checks = new Checks();

    public static void main(String[] args) {
        UnevenPiecesTest test = new UnevenPiecesTest();
        test.differences();
        test.worstSteps();
        test.mostLike();
        test.goodOnes();
        test.fewerFaults();
        test.sumsOfDifferences();
        test.sumsOfDiameters();
        test.chips();
        test.burntBefore();
        test.checks.end();
    }

    /** A piece of oak, by one each thicker from step to step, and a master of 48 under the follower. */
    private static LatheCopies uneven() {
        LatheCopies lathe = new LatheCopies();
        lathe.addBlank(1, 56);
        Checks.shape(lathe, 0, UP);
        Checks.load(lathe, 0, "48x16");
        lathe.chooseMaster(0);
        return lathe;
    }

    private void differences() {
        LatheCopies lathe = uneven();
        checks.due("tooThick", lathe.tooThick(0), 8);
        checks.due("tooThin", lathe.tooThin(0), 7);
        for (int tolerance = 0; tolerance <= 9; tolerance++) {
            lathe.changeTolerance(tolerance);
            int due = Math.max(0, 7 - tolerance) + Math.max(0, 8 - tolerance);
            checks.due("faultsOf with tolerance " + tolerance, lathe.faultsOf(0), due);
            checks.due("isGood with tolerance " + tolerance, lathe.isGood(0), due == 0);
        }
        lathe.chooseMaster(2);
        checks.due("tooThick against its own master", lathe.tooThick(0), 0);
        checks.due("tooThin against its own master", lathe.tooThin(0), 0);
    }

    /** The worst step is another one each time. */
    private void worstSteps() {
        LatheCopies lathe = uneven();
        lathe.chooseMaster(2);
        lathe.changeTolerance(0);
        for (int step = 0; step < 16; step++) {
            lathe.carve(2, step, 41 + step - 5);
            checks.due("tooThick at step " + step, lathe.tooThick(0), 5);
            checks.due("tooThin at step " + step, lathe.tooThin(0), 0);
            checks.due("faultsOf at step " + step, lathe.faultsOf(0), 1);
            lathe.carve(2, step, 41 + step + 6);
            checks.due("tooThick at step " + step, lathe.tooThick(0), 0);
            checks.due("tooThin at step " + step, lathe.tooThin(0), 6);
            checks.due("faultsOf at step " + step, lathe.faultsOf(0), 1);
            lathe.carve(2, step, 41 + step);
        }
        checks.due("isGood", lathe.isGood(0), true);
    }

    /** The sums are 64, 128 and 0 at first. */
    private void mostLike() {
        LatheCopies lathe = uneven();
        Checks.load(lathe, 1, DOWN);
        checks.due("mostLike of its own master", lathe.mostLike(0), 2);
        Checks.load(lathe, 2, "99x16");
        checks.due("mostLike by less", lathe.mostLike(0), 0);
        Checks.load(lathe, 0, "60x16");
        checks.due("mostLike, with the same sum of diameters", lathe.mostLike(0), 1);
        lathe.copyMaster(1, 0);
        checks.due("mostLike of two", lathe.mostLike(0), 0);
        lathe.mirrorMaster(1);
        checks.due("mostLike of one alike", lathe.mostLike(0), 1);
    }

    /** The third piece alone is good. */
    private void goodOnes() {
        LatheCopies lathe = new LatheCopies();
        for (int piece = 0; piece < 4; piece++) {
            lathe.addBlank(piece % 3, 60);
        }
        Checks.shape(lathe, 2, UP);
        for (int piece = 0; piece < 4; piece++) {
            checks.due("isGood of " + piece, lathe.isGood(piece), piece == 2);
            checks.due("faultsOf " + piece, lathe.faultsOf(piece), piece == 2 ? 0 : 16);
            checks.due("mostLike of " + piece, lathe.mostLike(piece), 2);
        }
        checks.due("bestCopy", lathe.bestCopy(), 2);
    }

    /** Two pieces with so many faults each; more faults are smaller ones. */
    private void fewerFaults() {
        for (int first = 0; first <= 5; first++) {
            for (int second = 0; second <= 5; second++) {
                LatheCopies lathe = new LatheCopies();
                lathe.addBlank(0, 80);
                lathe.addBlank(0, 80);
                Checks.shape(lathe, 0, withFaults(first));
                Checks.shape(lathe, 1, withFaults(second));
                Checks.load(lathe, 2, "70x16");
                checks.due("faultsOf 0", lathe.faultsOf(0), first);
                checks.due("faultsOf 1", lathe.faultsOf(1), second);
                checks.due("bestCopy of " + first + " and " + second, lathe.bestCopy(), second < first ? 1 : 0);
            }
        }
    }

    private static String withFaults(int faults) {
        StringBuilder told = new StringBuilder();
        for (int step = 0; step < faults; step++) {
            told.append(80 - faults).append(',');
        }
        return told + "70x" + (16 - faults);
    }

    /** Both have no fault with this tolerance, and the second one is nearer to a master of 48, if seldom at first. */
    private void sumsOfDifferences() {
        LatheCopies lathe = new LatheCopies();
        lathe.addBlank(0, 56);
        lathe.addBlank(0, 58);
        Checks.shape(lathe, 0, UP);
        Checks.shape(lathe, 1, "58x5,48x11");
        Checks.load(lathe, 0, "48x16");
        lathe.chooseMaster(0);
        lathe.changeTolerance(20);
        checks.due("bestCopy by 64 and 50", lathe.bestCopy(), 1);
        lathe.carve(0, 15, 62);
        checks.due("bestCopy by 62 and 64", lathe.bestCopy(), 0);
        lathe.carve(0, 15, 61);
        checks.due("bestCopy by 61 and 63", lathe.bestCopy(), 0);
        lathe.carve(0, 15, 54);
        checks.due("bestCopy by 58 and 56", lathe.bestCopy(), 1);
        lathe.carve(0, 0, 46);
        checks.due("bestCopy by 56 and 58", lathe.bestCopy(), 0);
        lathe.carve(0, 0, 47);
        checks.due("bestCopy by 57 and 57", lathe.bestCopy(), 0);
    }

    /** The diameters are 776 together: 48 and a half for each step. */
    private void sumsOfDiameters() {
        LatheCopies lathe = uneven();
        checks.due("priceOf", lathe.priceOf(0), 240);
        checks.due("meanDiameter", lathe.meanDiameter(0), 48.5);
        lathe.mount(0);
        checks.due("sand", lathe.sand(1), 8);
        checks.due("priceOf of 768", lathe.priceOf(0), 240);
        checks.due("meanDiameter of 768", lathe.meanDiameter(0), 48.0);
        checks.due("sand", lathe.sand(1), 7);
        checks.due("priceOf of 761", lathe.priceOf(0), 235);
        checks.due("meanDiameter of 761", lathe.meanDiameter(0), 47.5625);
    }

    private void chips() {
        LatheCopies lathe = uneven();
        checks.due("chipsOf", lathe.chipsOf(0), 36);
        for (int offset = 1; offset <= 5; offset++) {
            lathe.changeOffset(offset);
            checks.due("chipsOf with offset " + offset, lathe.chipsOf(0), (8 - offset) * (9 - offset) / 2);
        }
        lathe.carve(0, 13, 99);
        checks.due("chipsOf without the third from the end", lathe.chipsOf(0), 5);
        lathe.fitFollower(1);
        checks.due("chipsOf with a tip that lies on it", lathe.chipsOf(0), 3);
        lathe.fitFollower(2);
        checks.due("chipsOf with a tip of 2", lathe.chipsOf(0), 0);
    }

    /** Those that came later keep their wood, their shape and their passes, also if one of them is mounted. */
    private void burntBefore() {
        for (int burnt = 0; burnt < 4; burnt++) {
            LatheCopies lathe = new LatheCopies();
            String[] shapes = new String[4];
            for (int piece = 0; piece < 4; piece++) {
                lathe.addBlank(piece % 3, 56);
                Checks.shape(lathe, piece, piece % 2 == 0 ? UP : DOWN);
                lathe.mount(piece);
                for (int pass = 0; pass <= piece; pass++) {
                    lathe.carve(2, 3 * piece + pass, 30 + pass);
                    lathe.pass();
                }
                lathe.takeOut();
                shapes[piece] = Checks.piece(lathe, piece);
            }
            lathe.mount(burnt == 3 ? 0 : 3);
            checks.due("burn " + burnt, lathe.burn(burnt), 3);
            for (int piece = 0; piece < 3; piece++) {
                int was = piece < burnt ? piece : piece + 1;
                checks.due("wood of " + was, lathe.woodOf(piece), was % 3);
                checks.due("shape of " + was, Checks.piece(lathe, piece), shapes[was]);
                checks.due("passes on " + was, lathe.passesOn(piece), was + 1);
            }
            checks.due("mounted", lathe.mounted(), burnt == 3 ? 0 : 2);
        }
    }
}
