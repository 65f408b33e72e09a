/** Promises 58 to 63. */
public final class GaugingTest {
    private static final Class<IllegalStateException> STATE = IllegalStateException.class;

    private final Checks checks = new Checks();

    public static void main(String[] args) {
        GaugingTest test = new GaugingTest();
        test.againstTheMaster();
        test.worstAtTheEnds();
        test.faults();
        test.mostLike();
        test.bestCopy();
        test.bestCopyBySums();
        test.bestCopyAgainstEachMaster();
        test.checks.end();
    }

    private void againstTheMaster() {
        LatheCopies lathe = new LatheCopies();
        lathe.addBlank(0, 40);
        Checks.load(lathe, 0, "45,35x7,38x7,60");
        checks.due("tooThick", lathe.tooThick(0), 5);
        checks.due("tooThin", lathe.tooThin(0), 20);
        lathe.changeOffset(5);
        lathe.fitFollower(3);
        checks.due("tooThick whatever the targets", lathe.tooThick(0), 5);
        checks.due("tooThin whatever the targets", lathe.tooThin(0), 20);
        checks.due("faultsOf whatever the targets", lathe.faultsOf(0), 9);
        lathe.chooseMaster(1);
        checks.due("tooThick against master 1", lathe.tooThick(0), 10);
        checks.due("tooThin against master 1", lathe.tooThin(0), 0);
        Checks.load(lathe, 1, "99x16");
        checks.due("tooThick, nowhere", lathe.tooThick(0), 0);
        checks.due("tooThin", lathe.tooThin(0), 59);
        Checks.load(lathe, 1, "40x16");
        checks.due("tooThick of one alike", lathe.tooThick(0), 0);
        checks.due("tooThin of one alike", lathe.tooThin(0), 0);
        checks.due("isGood of one alike", lathe.isGood(0), true);
    }

    /** The worst step is the first or the last one; what is behind them in the rack and the masters does not count. */
    private void worstAtTheEnds() {
        LatheCopies lathe = new LatheCopies();
        lathe.addBlank(0, 40);
        lathe.addBlank(0, 120);
        Checks.load(lathe, 0, "33,40x15");
        checks.due("tooThick at the first step", lathe.tooThick(0), 7);
        Checks.load(lathe, 0, "40x15,34");
        checks.due("tooThick at the last step", lathe.tooThick(0), 6);
        Checks.load(lathe, 0, "47,40x15");
        checks.due("tooThin at the first step", lathe.tooThin(0), 7);
        Checks.load(lathe, 0, "40x15,46");
        Checks.load(lathe, 1, "99x16");
        checks.due("tooThin at the last step", lathe.tooThin(0), 6);
        checks.due("faultsOf at the last step", lathe.faultsOf(0), 1);
        Checks.load(lathe, 0, "40x16");
        checks.due("tooThick next to another piece", lathe.tooThick(0), 0);
        checks.due("tooThin next to another master", lathe.tooThin(0), 0);
    }

    private void faults() {
        LatheCopies lathe = new LatheCopies();
        lathe.addBlank(1, 50);
        Checks.load(lathe, 0, "50,49,51,48,52,47,53,46,54,70,30,50x5");
        int[] tolerances = {0, 1, 2, 3, 4, 19, 20};
        int[] due = {10, 8, 6, 4, 2, 2, 0};
        for (int number = 0; number < due.length; number++) {
            lathe.changeTolerance(tolerances[number]);
            checks.due("faultsOf with " + tolerances[number], lathe.faultsOf(0), due[number]);
            checks.due("isGood with " + tolerances[number], lathe.isGood(0), due[number] == 0);
        }
        lathe.chooseMaster(2);
        checks.due("faultsOf against master 2", lathe.faultsOf(0), 0);
        lathe.changeTolerance(19);
        checks.due("faultsOf against master 2 with 19", lathe.faultsOf(0), 16);
        checks.due("isGood against master 2 with 19", lathe.isGood(0), false);
    }

    private void mostLike() {
        LatheCopies lathe = new LatheCopies();
        lathe.addBlank(1, 50);
        checks.due("mostLike of three alike", lathe.mostLike(0), 0);
        Checks.load(lathe, 0, "40x8,60x8");
        Checks.load(lathe, 1, "99,50x15");
        checks.due("mostLike without signs", lathe.mostLike(0), 1);
        lathe.chooseMaster(2);
        checks.due("mostLike whichever is chosen", lathe.mostLike(0), 1);
        Checks.load(lathe, 2, "50x15,98");
        checks.due("mostLike the last", lathe.mostLike(0), 2);
        lathe.carve(2, 15, 99);
        checks.due("mostLike of two the lower", lathe.mostLike(0), 1);
        Checks.load(lathe, 0, "50x8,51x7,92");
        checks.due("mostLike of three the lowest", lathe.mostLike(0), 0);
        lathe.addBlank(1, 60);
        checks.due("mostLike of another piece", lathe.mostLike(1), 0);
        LatheCopies thick = new LatheCopies();
        thick.addBlank(0, 20);
        for (int master = 0; master < 3; master++) {
            Checks.load(thick, master, "99x15," + (99 - master));
        }
        checks.due("mostLike of one much thinner than all", thick.mostLike(0), 2);
    }

    private void bestCopy() {
        LatheCopies lathe = new LatheCopies();
        checks.refused("bestCopy of none", lathe, STATE, lathe::bestCopy);
        lathe.addBlank(0, 60);
        checks.due("bestCopy of one", lathe.bestCopy(), 0);
        lathe.addBlank(0, 50);
        checks.due("bestCopy by the sums", lathe.bestCopy(), 1);
        lathe.addBlank(0, 50);
        checks.due("bestCopy of two the lower", lathe.bestCopy(), 1);
        lathe.addBlank(0, 32);
        lathe.addBlank(0, 28);
        checks.due("bestCopy by faults, of two the lower", lathe.bestCopy(), 3);
        Checks.load(lathe, 1, "60x16");
        lathe.chooseMaster(1);
        checks.due("bestCopy against master 1", lathe.bestCopy(), 0);
    }

    /** Fewer faults go before a lesser sum. */
    private void bestCopyBySums() {
        LatheCopies lathe = new LatheCopies();
        lathe.addBlank(0, 33);
        lathe.addBlank(0, 99);
        Checks.load(lathe, 0, "30x15,99");
        checks.due("faults of 0", lathe.faultsOf(0), 16);
        checks.due("faults of 1", lathe.faultsOf(1), 15);
        checks.due("bestCopy", lathe.bestCopy(), 1);
        lathe.changeTolerance(3);
        checks.due("bestCopy with another tolerance", lathe.bestCopy(), 0);
        lathe.addBlank(0, 30);
        checks.due("bestCopy is the last", lathe.bestCopy(), 2);
        lathe.burn(2);
        checks.due("bestCopy without the burnt one", lathe.bestCopy(), 0);
        lathe.burn(0);
        checks.due("bestCopy of the one that is left", lathe.bestCopy(), 0);
        lathe.burn(0);
        checks.refused("bestCopy of none any more", lathe, STATE, lathe::bestCopy);
    }

    /** Each piece has sixteen faults against each master, so that the sums alone tell, whatever the tip is like. */
    private void bestCopyAgainstEachMaster() {
        LatheCopies lathe = new LatheCopies();
        for (int master = 0; master < 3; master++) {
            Checks.load(lathe, master, (40 + 20 * master) + "x16");
        }
        for (int diameter : new int[] {85, 66, 47}) {
            lathe.addBlank(0, diameter);
        }
        for (int radius = 0; radius <= 3; radius++) {
            lathe.fitFollower(radius);
            for (int master = 0; master < 3; master++) {
                lathe.chooseMaster(master);
                checks.due("bestCopy against master " + master, lathe.bestCopy(), 2 - master);
            }
        }
    }
}
