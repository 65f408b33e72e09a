/** Promises 6 to 12 and 30 to 40. */
public final class FollowerCutterTest {
    private static final Class<IllegalArgumentException> ARGUMENT = IllegalArgumentException.class;

    private final Checks checks = new Checks();

    public static void main(String[] args) {
        FollowerCutterTest test = new FollowerCutterTest();
        test.fitFollower();
        test.wearAfterPasses();
        test.mostWear();
        test.changeOffset();
        test.sharpen();
        test.cutDepth();
        test.changeDepth();
        test.changeDepthOfABluntOne();
        test.changeSpeed();
        test.changeTolerance();
        test.sweep();
        test.checks.end();
    }

    private void fitFollower() {
        LatheCopies lathe = new LatheCopies();
        for (int radius = 3; radius >= 0; radius--) {
            checks.due("fitFollower " + radius, lathe.fitFollower(radius), 0);
            checks.due("radius", lathe.radius(), radius);
        }
        checks.due("savedStates", lathe.savedStates(), 4);
        for (int radius : new int[] {-1, 4, Integer.MIN_VALUE, Integer.MAX_VALUE}) {
            checks.refused("fitFollower " + radius, lathe, ARGUMENT, () -> lathe.fitFollower(radius));
        }
    }

    private void wearAfterPasses() {
        LatheCopies lathe = Checks.mounted(0, 30);
        int[] wears = {0, 0, 0, 1, 1, 1, 1, 2, 2, 2};
        for (int wear : wears) {
            lathe.pass();
            checks.due("wear after " + lathe.passes() + " passes", lathe.wear(), wear);
        }
        checks.due("wear of the old one", lathe.fitFollower(1), 2);
        checks.due("wear of the new one", lathe.wear(), 0);
        for (int wear : new int[] {0, 0, 0, 1}) {
            lathe.pass();
            checks.due("wear of the new one after " + lathe.passes() + " passes in all", lathe.wear(), wear);
        }
    }

    private void mostWear() {
        LatheCopies lathe = Checks.mounted(0, 20);
        Checks.load(lathe, 0, "99x16");
        lathe.changeSpeed(1);
        for (int pass = 1; pass <= 130; pass++) {
            lathe.pass();
            checks.due("wear after " + pass + " passes", lathe.wear(), Math.min(30, pass / 4));
            if (lathe.sharpness() < 5) {
                lathe.sharpen();
            }
        }
        checks.due("target with the most wear", lathe.targetAt(0), 69);
        checks.due("fitFollower", lathe.fitFollower(0), 30);
    }

    private void changeOffset() {
        LatheCopies lathe = new LatheCopies();
        checks.due("changeOffset 5", lathe.changeOffset(5), 0);
        checks.due("offset", lathe.offset(), 5);
        checks.due("target", lathe.targetAt(0), 35);
        checks.due("changeOffset 0", lathe.changeOffset(0), 5);
        checks.due("changeOffset 0 again", lathe.changeOffset(0), 0);
        checks.due("savedStates", lathe.savedStates(), 3);
        for (int offset : new int[] {-1, 6, Integer.MIN_VALUE, Integer.MAX_VALUE}) {
            checks.refused("changeOffset " + offset, lathe, ARGUMENT, () -> lathe.changeOffset(offset));
        }
    }

    private void sharpen() {
        LatheCopies lathe = Checks.mounted(2, 30);
        checks.due("sharpen a sharp one", lathe.sharpen(), 100);
        lathe.pass();
        checks.due("sharpness", lathe.sharpness(), 92);
        checks.due("sharpen", lathe.sharpen(), 92);
        checks.due("sharpness after it", lathe.sharpness(), 100);
        checks.due("sharpenings", lathe.sharpenings(), 2);
        checks.due("savedStates", lathe.savedStates(), 5);
    }

    /** Oak at speed 5 takes 10 of the sharpness a pass. */
    private void cutDepth() {
        LatheCopies lathe = Checks.mounted(1, 30);
        lathe.changeSpeed(5);
        lathe.changeDepth(9);
        int[] depths = {9, 9, 9, 9, 9, 5, 5, 5, 5, 0};
        for (int depth : depths) {
            lathe.pass();
            checks.due("cutDepth with sharpness " + lathe.sharpness(), lathe.cutDepth(), depth);
            checks.due("depth with sharpness " + lathe.sharpness(), lathe.depth(), 9);
        }
        checks.due("sharpness", lathe.sharpness(), 0);
        lathe.sharpen();
        checks.due("cutDepth of the sharpened one", lathe.cutDepth(), 9);
        LatheCopies pine = Checks.mounted(0, 30);
        pine.changeSpeed(1);
        for (int pass = 0; pass < 51; pass++) {
            checks.due("cutDepth with sharpness " + pine.sharpness(), pine.cutDepth(), 3);
            pine.pass();
        }
        checks.due("sharpness just below the half", pine.sharpness(), 49);
        int[] halves = {1, 1, 2, 2, 3, 3, 4, 4, 5};
        for (int depth = 1; depth <= 9; depth++) {
            pine.changeDepth(depth);
            checks.due("half of depth " + depth, pine.cutDepth(), halves[depth - 1]);
        }
    }

    private void changeDepth() {
        LatheCopies lathe = new LatheCopies();
        checks.due("changeDepth 9", lathe.changeDepth(9), 3);
        checks.due("depth", lathe.depth(), 9);
        checks.due("cutDepth", lathe.cutDepth(), 9);
        checks.due("changeDepth 1", lathe.changeDepth(1), 9);
        checks.due("changeDepth 1 again", lathe.changeDepth(1), 1);
        checks.due("savedStates", lathe.savedStates(), 3);
        for (int depth : new int[] {0, 10, -1, Integer.MIN_VALUE, Integer.MAX_VALUE}) {
            checks.refused("changeDepth " + depth, lathe, ARGUMENT, () -> lathe.changeDepth(depth));
        }
    }

    /** The depth that is set stays, whatever the cutter cuts to. */
    private void changeDepthOfABluntOne() {
        for (int sharpness : new int[] {49, 1, 0}) {
            LatheCopies lathe = Checks.sharp(sharpness);
            checks.due("changeDepth 9 with " + sharpness, lathe.changeDepth(9), 3);
            checks.due("depth with " + sharpness, lathe.depth(), 9);
            checks.due("cutDepth with " + sharpness, lathe.cutDepth(), sharpness == 0 ? 0 : 5);
            checks.due("changeDepth 4 with " + sharpness, lathe.changeDepth(4), 9);
        }
    }

    private void changeSpeed() {
        LatheCopies lathe = Checks.mounted(1, 30);
        checks.due("changeSpeed 5", lathe.changeSpeed(5), 2);
        checks.due("speed", lathe.speed(), 5);
        lathe.pass();
        checks.due("sharpness after a fast pass", lathe.sharpness(), 90);
        checks.due("changeSpeed 1", lathe.changeSpeed(1), 5);
        lathe.pass();
        checks.due("sharpness after a slow pass", lathe.sharpness(), 88);
        checks.due("savedStates", lathe.savedStates(), 6);
        for (int speed : new int[] {0, 6, -1, Integer.MIN_VALUE, Integer.MAX_VALUE}) {
            checks.refused("changeSpeed " + speed, lathe, ARGUMENT, () -> lathe.changeSpeed(speed));
        }
    }

    private void changeTolerance() {
        LatheCopies lathe = new LatheCopies();
        checks.due("changeTolerance 20", lathe.changeTolerance(20), 2);
        checks.due("tolerance", lathe.tolerance(), 20);
        checks.due("changeTolerance 0", lathe.changeTolerance(0), 20);
        checks.due("tolerance 0", lathe.tolerance(), 0);
        checks.due("savedStates", lathe.savedStates(), 2);
        for (int tolerance : new int[] {-1, 21, Integer.MIN_VALUE, Integer.MAX_VALUE}) {
            checks.refused("changeTolerance " + tolerance, lathe, ARGUMENT, () -> lathe.changeTolerance(tolerance));
        }
    }

    private void sweep() {
        LatheCopies lathe = Checks.mounted(0, 60);
        checks.due("sweep of nothing", lathe.sweep(), 0);
        lathe.pass();
        checks.due("chips", lathe.chips(), 48);
        checks.due("roomForChips", lathe.roomForChips(), 152);
        checks.due("sweep", lathe.sweep(), 48);
        checks.due("chips after it", lathe.chips(), 0);
        checks.due("roomForChips after it", lathe.roomForChips(), 200);
        lathe.changeDepth(9);
        lathe.passUpTo(2);
        checks.due("isJammed", lathe.isJammed(), true);
        checks.due("chips of the jam", lathe.sweep(), 198);
        checks.due("isJammed after it", lathe.isJammed(), false);
        checks.due("jams after it", lathe.jams(), 1);
        LatheCopies another = new LatheCopies();
        another.sweep();
        checks.due("savedStates", another.savedStates(), 1);
    }
}
