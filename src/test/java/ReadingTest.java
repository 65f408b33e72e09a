/** Promises 53 to 57. */
public final class ReadingTest {
    private static final Class<IndexOutOfBoundsException> INDEX = IndexOutOfBoundsException.class;
    private static final String MASTER = "40,10,20,10,10,10,50,5,99,98,97,96,5,6,7,8";
    private static final int[][] READINGS = {
        {40, 10, 20, 10, 10, 10, 50, 5, 99, 98, 97, 96, 5, 6, 7, 8},
        {40, 40, 20, 20, 10, 50, 50, 99, 99, 99, 98, 97, 96, 7, 8, 8},
        {40, 40, 40, 20, 50, 50, 99, 99, 99, 99, 99, 98, 97, 96, 8, 8},
        {40, 40, 40, 50, 50, 99, 99, 99, 99, 99, 99, 99, 98, 97, 96, 8},
    };
    private static final int[] LOST = {0, 10, 13, 13};

    private final Checks checks = new Checks();

    public static void main(String[] args) {
        ReadingTest test = new ReadingTest();
        test.readings();
        test.targets();
        test.readingsOfEqualSteps();
        test.lostGroovesAtTheEnds();
        test.noSuchStep();
        test.slimmestMaster();
        test.checks.end();
    }

    private void readings() {
        LatheCopies lathe = new LatheCopies();
        Checks.load(lathe, 1, MASTER);
        lathe.chooseMaster(1);
        for (int radius = 0; radius <= 3; radius++) {
            lathe.fitFollower(radius);
            for (int step = 0; step < 16; step++) {
                String at = " with radius " + radius + " at step " + step;
                checks.due("readingByLooking" + at, lathe.readingByLooking(step), READINGS[radius][step]);
                checks.due("readingByQueue" + at, lathe.readingByQueue(step), READINGS[radius][step]);
                checks.due("targetAt" + at, lathe.targetAt(step), READINGS[radius][step]);
            }
            checks.due("lostGrooves with radius " + radius, lathe.lostGrooves(), LOST[radius]);
        }
        lathe.chooseMaster(0);
        checks.due("reading of another master", lathe.readingByQueue(8), 30);
        checks.due("lostGrooves of another master", lathe.lostGrooves(), 0);
    }

    private void targets() {
        LatheCopies lathe = Checks.mounted(0, 20);
        Checks.load(lathe, 0, "5x8,20x8");
        lathe.changeOffset(3);
        checks.due("target with the offset", lathe.targetAt(0), 8);
        for (int pass = 0; pass < 24; pass++) {
            lathe.pass();
        }
        checks.due("wear", lathe.wear(), 6);
        checks.due("target with wear and offset", lathe.targetAt(0), 2);
        checks.due("target of the thick part", lathe.targetAt(15), 17);
        checks.due("target next to the thick part", lathe.targetAt(7), 17);
        lathe.changeOffset(2);
        checks.due("target at least 1", lathe.targetAt(0), 1);
        lathe.changeOffset(0);
        checks.due("target still 1", lathe.targetAt(0), 1);
        checks.due("target of the thick part", lathe.targetAt(15), 14);
        checks.due("the reading has no wear", lathe.readingByLooking(0), 5);
        checks.due("nor that by the row", lathe.readingByQueue(0), 5);
        checks.due("lostGrooves has no wear", lathe.lostGrooves(), 1);
    }

    private void readingsOfEqualSteps() {
        LatheCopies lathe = new LatheCopies();
        Checks.load(lathe, 0, "9,9,8,8,8,9,9,7x9");
        lathe.fitFollower(1);
        int[] due = {9, 9, 9, 8, 9, 9, 9, 9, 7, 7, 7, 7, 7, 7, 7, 7};
        for (int step = 0; step < 16; step++) {
            checks.due("readingByQueue " + step, lathe.readingByQueue(step), due[step]);
            checks.due("readingByLooking " + step, lathe.readingByLooking(step), due[step]);
        }
    }

    private void lostGroovesAtTheEnds() {
        LatheCopies lathe = new LatheCopies();
        Checks.load(lathe, 1, "5x16");
        lathe.carve(0, 0, 29);
        checks.due("lostGrooves at the first step, none behind the last", lathe.lostGrooves(), 1);
        lathe.carve(0, 15, 29);
        checks.due("lostGrooves at both ends", lathe.lostGrooves(), 2);
    }

    private void noSuchStep() {
        LatheCopies lathe = new LatheCopies();
        for (int step : new int[] {-1, 16, Integer.MIN_VALUE, Integer.MAX_VALUE}) {
            checks.refused("readingByLooking " + step, lathe, INDEX, () -> lathe.readingByLooking(step));
            checks.refused("readingByQueue " + step, lathe, INDEX, () -> lathe.readingByQueue(step));
            checks.refused("targetAt " + step, lathe, INDEX, () -> lathe.targetAt(step));
        }
    }

    private void slimmestMaster() {
        LatheCopies lathe = new LatheCopies();
        checks.due("of three alike", lathe.slimmestMaster(), 0);
        lathe.carve(2, 5, 29);
        checks.due("the last", lathe.slimmestMaster(), 2);
        lathe.carve(1, 15, 29);
        checks.due("of two alike the lower", lathe.slimmestMaster(), 1);
        lathe.carve(0, 0, 28);
        checks.due("the first", lathe.slimmestMaster(), 0);
        lathe.carve(0, 1, 99);
        lathe.chooseMaster(2);
        checks.due("whichever is chosen", lathe.slimmestMaster(), 1);
    }
}
