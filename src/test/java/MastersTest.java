/** Promises 2 to 5, 28 and 29. */
public final class MastersTest {
    private static final Class<IndexOutOfBoundsException> INDEX = IndexOutOfBoundsException.class;
    private static final Class<IllegalArgumentException> ARGUMENT = IllegalArgumentException.class;
    private static final int[] NO_MASTERS = {-1, 3, Integer.MIN_VALUE, Integer.MAX_VALUE};
    private static final int[] NO_STEPS = {-1, 16, Integer.MIN_VALUE, Integer.MAX_VALUE};
    private static final String ALONG = "5,6,7,8,9,10,11,12,13,14,15,16,17,18,19,99";

    private final Checks checks = new Checks();

    public static void main(String[] args) {
        MastersTest test = new MastersTest();
        test.carve();
        test.carveOfEach();
        test.carveRefused();
        test.copyMaster();
        test.mirrorMaster();
        test.mirrorOfEach();
        test.chooseMaster();
        test.masterAtRefused();
        test.checks.end();
    }

    private void carve() {
        LatheCopies lathe = new LatheCopies();
        checks.due("carve to the least", lathe.carve(0, 0, 5), 30);
        checks.due("carve to the greatest", lathe.carve(2, 15, 99), 30);
        checks.due("carve again", lathe.carve(2, 15, 98), 99);
        checks.due("carve alike", lathe.carve(2, 15, 98), 98);
        checks.due("carve in the middle", lathe.carve(1, 7, 50), 30);
        checks.due("savedStates", lathe.savedStates(), 5);
        checks.due("master 0", Checks.master(lathe, 0), "5 " + Checks.times("30", 15));
        checks.due("master 1", Checks.master(lathe, 1), Checks.times("30", 7) + " 50 " + Checks.times("30", 8));
        checks.due("master 2", Checks.master(lathe, 2), Checks.times("30", 15) + " 98");
    }

    /** Each step of each master has a diameter of its own. */
    private void carveOfEach() {
        LatheCopies lathe = new LatheCopies();
        for (int master = 0; master < 3; master++) {
            for (int step = 0; step < 16; step++) {
                lathe.carve(master, step, 10 + 20 * master + step);
            }
        }
        for (int master = 0; master < 3; master++) {
            for (int step = 0; step < 16; step++) {
                int before = 10 + 20 * master + step;
                checks.due("carve " + master + ", " + step, lathe.carve(master, step, 99), before);
            }
        }
    }

    private void carveRefused() {
        LatheCopies lathe = new LatheCopies();
        for (int master : NO_MASTERS) {
            checks.refused("carve master " + master, lathe, INDEX, () -> lathe.carve(master, 0, 30));
            checks.refused("carve master " + master + " to 4", lathe, INDEX, () -> lathe.carve(master, 0, 4));
        }
        for (int step : NO_STEPS) {
            checks.refused("carve step " + step, lathe, INDEX, () -> lathe.carve(0, step, 30));
            checks.refused("carve step " + step + " to 100", lathe, INDEX, () -> lathe.carve(1, step, 100));
        }
        for (int diameter : new int[] {4, 100, 0, -1, Integer.MIN_VALUE, Integer.MAX_VALUE}) {
            checks.refused("carve to " + diameter, lathe, ARGUMENT, () -> lathe.carve(0, 0, diameter));
        }
        checks.due("savedStates", lathe.savedStates(), 0);
    }

    private void copyMaster() {
        LatheCopies lathe = new LatheCopies();
        Checks.load(lathe, 0, ALONG);
        lathe.carve(2, 1, 6);
        lathe.carve(2, 15, 99);
        checks.due("copyMaster to a new one", lathe.copyMaster(0, 1), 16);
        checks.due("copyMaster where two steps are alike", lathe.copyMaster(0, 2), 14);
        checks.due("copyMaster again", lathe.copyMaster(0, 1), 0);
        checks.due("copyMaster to itself", lathe.copyMaster(1, 1), 0);
        checks.due("savedStates", lathe.savedStates(), 6);
        for (int master = 0; master < 3; master++) {
            checks.due("master " + master, Checks.master(lathe, master), ALONG.replace(',', ' '));
        }
        lathe.carve(0, 3, 77);
        checks.due("the copy has steps of its own", lathe.masterAt(1, 3), 8);
        for (int master : NO_MASTERS) {
            checks.refused("copyMaster from " + master, lathe, INDEX, () -> lathe.copyMaster(master, 0));
            checks.refused("copyMaster to " + master, lathe, INDEX, () -> lathe.copyMaster(0, master));
        }
    }

    private void mirrorMaster() {
        LatheCopies lathe = new LatheCopies();
        checks.due("mirrorMaster of an even one", lathe.mirrorMaster(0), 0);
        Checks.load(lathe, 1, ALONG);
        checks.due("mirrorMaster", lathe.mirrorMaster(1), 16);
        checks.due("master 1", Checks.master(lathe, 1), "99 19 18 17 16 15 14 13 12 11 10 9 8 7 6 5");
        lathe.carve(2, 0, 40);
        checks.due("mirrorMaster of one step", lathe.mirrorMaster(2), 2);
        checks.due("master 2", Checks.master(lathe, 2), Checks.times("30", 15) + " 40");
        lathe.carve(2, 0, 40);
        lathe.carve(2, 7, 8);
        checks.due("mirrorMaster of the middle", lathe.mirrorMaster(2), 2);
        checks.due("master 2 turned", Checks.master(lathe, 2),
                "40 " + Checks.times("30", 7) + " 8 " + Checks.times("30", 6) + " 40");
        checks.due("master 0", Checks.master(lathe, 0), Checks.times("30", 16));
        LatheCopies another = new LatheCopies();
        another.mirrorMaster(0);
        checks.due("savedStates", another.savedStates(), 1);
        for (int master : NO_MASTERS) {
            checks.refused("mirrorMaster " + master, another, INDEX, () -> another.mirrorMaster(master));
        }
    }

    /** Another one of them is alike from both ends each time. */
    private void mirrorOfEach() {
        for (int even = 0; even < 3; even++) {
            LatheCopies lathe = new LatheCopies();
            for (int master = 0; master < 3; master++) {
                Checks.load(lathe, master, master == even ? "40,30x14,40" : ALONG);
            }
            for (int master = 0; master < 3; master++) {
                checks.due("mirrorMaster " + master, lathe.mirrorMaster(master), master == even ? 0 : 16);
            }
        }
    }

    private void chooseMaster() {
        LatheCopies lathe = new LatheCopies();
        lathe.carve(2, 4, 60);
        checks.due("chooseMaster 2", lathe.chooseMaster(2), 0);
        checks.due("chosenMaster", lathe.chosenMaster(), 2);
        checks.due("reading of it", lathe.readingByLooking(4), 60);
        checks.due("chooseMaster 1", lathe.chooseMaster(1), 2);
        checks.due("chooseMaster 1 again", lathe.chooseMaster(1), 1);
        checks.due("reading of master 1", lathe.readingByLooking(4), 30);
        checks.due("chooseMaster 0", lathe.chooseMaster(0), 1);
        checks.due("savedStates", lathe.savedStates(), 5);
        for (int master : NO_MASTERS) {
            checks.refused("chooseMaster " + master, lathe, INDEX, () -> lathe.chooseMaster(master));
        }
    }

    private void masterAtRefused() {
        LatheCopies lathe = new LatheCopies();
        for (int master : NO_MASTERS) {
            checks.refused("masterAt of master " + master, lathe, INDEX, () -> lathe.masterAt(master, 0));
        }
        for (int step : NO_STEPS) {
            checks.refused("masterAt step " + step, lathe, INDEX, () -> lathe.masterAt(1, step));
        }
        checks.due("savedStates", lathe.savedStates(), 0);
    }
}
