/** Promises 64 to 70. */
public final class ProspectsTest {
    private static final Class<IllegalStateException> STATE = IllegalStateException.class;

    private final Checks checks = new Checks();

    public static void main(String[] args) {
        ProspectsTest test = new ProspectsTest();
        test.noneMounted();
        test.isFinished();
        test.ifPassed();
        test.passesToFinish();
        test.worstAtTheEnds();
        test.passesWhenJammedOrBlunt();
        test.sharpnessOfOne();
        test.passesUntilBlunt();
        test.chipsOf();
        test.meanDiameter();
        test.checks.end();
    }

    private void noneMounted() {
        LatheCopies lathe = new LatheCopies();
        lathe.addBlank(0, 60);
        checks.refused("isFinished", lathe, STATE, lathe::isFinished);
        checks.refused("ifPassed", lathe, STATE, lathe::ifPassed);
        checks.refused("passesBySteps", lathe, STATE, lathe::passesBySteps);
        checks.refused("passesByDivision", lathe, STATE, lathe::passesByDivision);
        checks.refused("passesUntilBlunt", lathe, STATE, lathe::passesUntilBlunt);
    }

    private void isFinished() {
        LatheCopies lathe = Checks.mounted(0, 30);
        checks.due("isFinished at its targets", lathe.isFinished(), true);
        lathe.carve(0, 15, 29);
        checks.due("isFinished, a groove that the follower cannot enter", lathe.isFinished(), true);
        lathe.fitFollower(0);
        checks.due("isFinished with a finer tip", lathe.isFinished(), false);
        lathe.changeOffset(1);
        checks.due("isFinished with the offset", lathe.isFinished(), true);
        lathe.changeOffset(0);
        lathe.pass();
        checks.due("isFinished after a pass", lathe.isFinished(), true);
        lathe.pass();
        lathe.pass();
        lathe.pass();
        checks.due("isFinished after wear", lathe.isFinished(), false);
        LatheCopies thin = Checks.mounted(0, 20);
        checks.due("isFinished of one below its targets", thin.isFinished(), true);
    }

    private void ifPassed() {
        LatheCopies lathe = Checks.mounted(0, 32);
        lathe.carve(0, 0, 31);
        checks.due("ifPassed", lathe.ifPassed(), 2 + 14 * 2);
        checks.due("nothing is cut", Checks.piece(lathe, 0), Checks.times("32", 16));
        checks.due("nothing is counted", lathe.passes(), 0);
        checks.due("pass", lathe.pass(), 30);
        checks.due("ifPassed then", lathe.ifPassed(), 0);
        LatheCopies thick = Checks.mounted(2, 120);
        thick.changeDepth(9);
        checks.due("ifPassed", thick.ifPassed(), 144);
        thick.pass();
        checks.due("ifPassed up to the jam", thick.ifPassed(), 54);
        checks.due("nothing is jammed", thick.isJammed(), false);
        checks.due("pass", thick.pass(), 54);
        checks.refused("ifPassed of a jammed lathe", thick, STATE, thick::ifPassed);
        LatheCopies full = Checks.mounted(0, 55);
        full.changeDepth(5);
        full.fitFollower(0);
        Checks.load(full, 0, "30x7,5,55x8");
        full.passUpTo(4);
        checks.due("ifPassed with just enough room", full.ifPassed(), 40);
        full.carve(0, 15, 54);
        checks.due("ifPassed with 1 too little", full.ifPassed(), 40);
        full.carve(0, 0, 31);
        checks.due("ifPassed with just enough again", full.ifPassed(), 40);
    }

    private void passesToFinish() {
        for (int depth = 1; depth <= 9; depth++) {
            for (int diameter = 29; diameter <= 50; diameter++) {
                LatheCopies lathe = Checks.mounted(0, diameter);
                lathe.changeDepth(depth);
                int due = diameter <= 30 ? 0 : (int) Math.ceil((diameter - 30) / (double) depth);
                String of = " of " + diameter + " with depth " + depth;
                checks.due("passesBySteps" + of, lathe.passesBySteps(), due);
                checks.due("passesByDivision" + of, lathe.passesByDivision(), due);
            }
        }
        LatheCopies lathe = Checks.mounted(2, 120);
        lathe.fitFollower(0);
        Checks.load(lathe, 0, "99x5,5,99x10");
        lathe.changeDepth(1);
        checks.due("passesBySteps of the worst step", lathe.passesBySteps(), 115);
        checks.due("passesByDivision of the worst step", lathe.passesByDivision(), 115);
        checks.due("the piece stays", Checks.piece(lathe, 0), Checks.times("120", 16));
        lathe.changeOffset(5);
        checks.due("passesBySteps with the offset", lathe.passesBySteps(), 110);
        checks.due("passesByDivision with the offset", lathe.passesByDivision(), 110);
    }

    /** The one step that is above its target is the first or the last one; a thicker piece is next in the rack. */
    private void worstAtTheEnds() {
        for (String master : new String[] {"30,50x15", "50x15,30"}) {
            LatheCopies lathe = Checks.mounted(0, 50);
            lathe.addBlank(0, 120);
            lathe.fitFollower(0);
            Checks.load(lathe, 0, master);
            lathe.changeDepth(7);
            checks.due("isFinished with " + master, lathe.isFinished(), false);
            checks.due("passesBySteps with " + master, lathe.passesBySteps(), 3);
            checks.due("passesByDivision with " + master, lathe.passesByDivision(), 3);
            checks.due("chipsOf with " + master, lathe.chipsOf(0), 20);
            checks.due("ifPassed with " + master, lathe.ifPassed(), 7);
            checks.due("sand with " + master, lathe.sand(2), 2);
            checks.due("passUpTo with " + master, lathe.passUpTo(30), 3);
            checks.due("isFinished then with " + master, lathe.isFinished(), true);
            checks.due("passesBySteps then with " + master, lathe.passesBySteps(), 0);
            checks.due("passesByDivision then with " + master, lathe.passesByDivision(), 0);
            checks.due("ifPassed then with " + master, lathe.ifPassed(), 0);
            checks.due("sand then with " + master, lathe.sand(3), 0);
            checks.due("the other piece with " + master, Checks.piece(lathe, 1), Checks.times("120", 16));
        }
    }

    private void sharpnessOfOne() {
        LatheCopies lathe = Checks.mounted(0, 20);
        lathe.changeSpeed(3);
        for (int pass = 0; pass < 33; pass++) {
            lathe.pass();
        }
        checks.due("sharpness", lathe.sharpness(), 1);
        checks.due("cutDepth", lathe.cutDepth(), 2);
        checks.due("passesUntilBlunt", lathe.passesUntilBlunt(), 1);
        checks.due("passesBySteps", lathe.passesBySteps(), 0);
        checks.due("ifPassed", lathe.ifPassed(), 0);
        checks.due("pass", lathe.pass(), 0);
        checks.due("sharpness after it", lathe.sharpness(), 0);
        checks.refused("pass of a blunt one", lathe, STATE, lathe::pass);
    }

    private void passesWhenJammedOrBlunt() {
        LatheCopies lathe = Checks.mounted(2, 120);
        lathe.changeDepth(9);
        lathe.changeSpeed(5);
        lathe.passUpTo(30);
        checks.due("isJammed", lathe.isJammed(), true);
        checks.due("passesBySteps of a jammed one", lathe.passesBySteps(), 9);
        checks.due("passesByDivision of a jammed one", lathe.passesByDivision(), 9);
        lathe.sweep();
        lathe.pass();
        checks.due("sharpness", lathe.sharpness(), 40);
        checks.due("passesBySteps with half the depth", lathe.passesBySteps(), 15);
        checks.due("passesByDivision with half the depth", lathe.passesByDivision(), 15);
        lathe.sweep();
        lathe.pass();
        lathe.pass();
        checks.due("sharpness", lathe.sharpness(), 0);
        checks.refused("passesBySteps of a blunt one", lathe, STATE, lathe::passesBySteps);
        checks.refused("passesByDivision of a blunt one", lathe, STATE, lathe::passesByDivision);
        checks.due("passesUntilBlunt of a blunt one", lathe.passesUntilBlunt(), 0);
        checks.due("isFinished of a blunt one", lathe.isFinished(), false);
    }

    private void passesUntilBlunt() {
        int[][] due = {{100, 50, 34, 25, 20}, {50, 25, 17, 13, 10}, {25, 13, 9, 7, 5}};
        for (int wood = 0; wood < 3; wood++) {
            LatheCopies lathe = Checks.mounted(wood, 20);
            for (int speed = 1; speed <= 5; speed++) {
                lathe.changeSpeed(speed);
                String of = " of wood " + wood + " with speed " + speed;
                checks.due("passesUntilBlunt" + of, lathe.passesUntilBlunt(), due[wood][speed - 1]);
            }
        }
        LatheCopies lathe = Checks.mounted(2, 20);
        lathe.changeSpeed(3);
        for (int left = 9; left > 0; left--) {
            checks.due("passesUntilBlunt", lathe.passesUntilBlunt(), left);
            lathe.pass();
        }
        checks.due("passesUntilBlunt at last", lathe.passesUntilBlunt(), 0);
        checks.due("sharpness at last", lathe.sharpness(), 0);
    }

    private void chipsOf() {
        LatheCopies lathe = new LatheCopies();
        lathe.addBlank(0, 35);
        lathe.addBlank(0, 20);
        checks.due("chipsOf", lathe.chipsOf(0), 80);
        checks.due("chipsOf a thin one", lathe.chipsOf(1), 0);
        lathe.carve(0, 0, 40);
        lathe.carve(0, 15, 32);
        checks.due("chipsOf with the tip", lathe.chipsOf(0), 12 * 5 + 2 * 3);
        lathe.fitFollower(0);
        checks.due("chipsOf with a finer tip", lathe.chipsOf(0), 14 * 5 + 3);
        lathe.changeOffset(4);
        checks.due("chipsOf with the offset", lathe.chipsOf(0), 14);
        lathe.chooseMaster(1);
        lathe.changeOffset(0);
        checks.due("chipsOf by another master", lathe.chipsOf(0), 80);
        lathe.addBlank(0, 120);
        checks.due("chipsOf more than the room", lathe.chipsOf(2), 1440);
    }

    private void meanDiameter() {
        LatheCopies lathe = new LatheCopies();
        lathe.addBlank(0, 33);
        lathe.addBlank(0, 120);
        checks.due("meanDiameter of a blank", lathe.meanDiameter(0), 33.0);
        checks.due("meanDiameter of the thickest", lathe.meanDiameter(1), 120.0);
        lathe.fitFollower(0);
        Checks.load(lathe, 0, "32,33x15");
        lathe.mount(0);
        lathe.pass();
        checks.due("meanDiameter", lathe.meanDiameter(0), 527 / 16.0);
        checks.due("meanDiameter of the other", lathe.meanDiameter(1), 120.0);
    }
}
