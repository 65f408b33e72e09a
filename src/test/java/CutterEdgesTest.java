/** The sentences of the document that name ends of the cutter, its sharpness and its depth, and of sanding. */
public final class CutterEdgesTest {
    private static final Class<IllegalStateException> STATE = IllegalStateException.class;

    private final Checks checks = new Checks();

    public static void main(String[] args) {
        CutterEdgesTest test = new CutterEdgesTest();
        test.sharpnessOfFiftyAndLess();
        test.halfOfEachDepth();
        test.depthAsThePassBegins();
        test.bluntWithZero();
        test.lessByHardnessTimesSpeed();
        test.downToZero();
        test.passesUntilBlunt();
        test.sharpenedAtEachEnd();
        test.aboveTheTargetByLessThanTheDepth();
        test.targetsAsAtTheBeginning();
        test.passesToFinish();
        test.finishedAtTheTarget();
        test.sandedNotBelowTheTarget();
        test.sandedInEachState();
        test.checks.end();
    }

    private void sharpnessOfFiftyAndLess() {
        checks.sentence("It cuts to the depth that is set (1 to 9, at first 3), if its sharpness is 50 or more;"
                + " below that to half of it, rounded up.");
        int[][] due = {{100, 9}, {99, 9}, {51, 9}, {50, 9}, {49, 5}, {48, 5}, {2, 5}, {1, 5}, {0, 0}};
        for (int[] row : due) {
            LatheCopies lathe = Checks.sharp(row[0]);
            lathe.changeDepth(9);
            String with = " with sharpness " + row[0];
            checks.due("sharpness" + with, lathe.sharpness(), row[0]);
            checks.due("cutDepth" + with, lathe.cutDepth(), row[1]);
            checks.due("depth" + with, lathe.depth(), 9);
            if (row[0] > 0) {
                checks.due("ifPassed" + with, lathe.ifPassed(), 16 * row[1]);
                checks.due("passesBySteps" + with, lathe.passesBySteps(), (30 + row[1] - 1) / row[1]);
                checks.due("passesByDivision" + with, lathe.passesByDivision(), (30 + row[1] - 1) / row[1]);
                checks.due("pass" + with, lathe.pass(), 16 * row[1]);
                checks.due("piece" + with, Checks.piece(lathe, 0), Checks.times("" + (60 - row[1]), 16));
            }
        }
    }

    private void halfOfEachDepth() {
        checks.sentence("below that to half of it, rounded up.");
        int[] halves = {1, 1, 2, 2, 3, 3, 4, 4, 5};
        LatheCopies lathe = Checks.sharp(49);
        for (int depth = 1; depth <= 9; depth++) {
            lathe.changeDepth(depth);
            checks.due("cutDepth of depth " + depth, lathe.cutDepth(), halves[depth - 1]);
            checks.due("ifPassed with depth " + depth, lathe.ifPassed(), 16 * halves[depth - 1]);
        }
    }

    private void depthAsThePassBegins() {
        checks.sentence("by the depth to which the cutter cuts as the pass begins");
        LatheCopies lathe = Checks.sharp(50);
        checks.due("ifPassed that begins with 50", lathe.ifPassed(), 48);
        checks.due("pass that begins with 50", lathe.pass(), 48);
        checks.due("sharpness behind it", lathe.sharpness(), 49);
        checks.due("pass that begins with 49", lathe.pass(), 32);
        lathe = Checks.sharp(51);
        checks.due("passUpTo that begins with 51", lathe.passUpTo(3), 3);
        checks.due("piece", Checks.piece(lathe, 0), Checks.times("52", 16));
        lathe = Checks.sharp(1);
        checks.due("pass that begins with 1", lathe.pass(), 32);
        checks.due("cutDepth behind it", lathe.cutDepth(), 0);
    }

    private void bluntWithZero() {
        checks.sentence("The cutter has a sharpness of 0 to 100, at first 100; with 0 it is blunt.");
        LatheCopies sharp = Checks.sharp(1);
        checks.passes("ifPassed with 1", sharp::ifPassed);
        checks.passes("passesBySteps with 1", sharp::passesBySteps);
        checks.passes("passesByDivision with 1", sharp::passesByDivision);
        checks.passes("pass with 1", sharp::pass);
        checks.passes("passUpTo with 1", () -> Checks.sharp(1).passUpTo(30));
        LatheCopies blunt = Checks.sharp(0);
        checks.due("sharpness", blunt.sharpness(), 0);
        checks.due("cutDepth", blunt.cutDepth(), 0);
        checks.due("passesUntilBlunt", blunt.passesUntilBlunt(), 0);
        checks.refused("pass with 0", blunt, STATE, blunt::pass);
        checks.refused("passUpTo with 0", blunt, STATE, () -> blunt.passUpTo(1));
        checks.refused("ifPassed with 0", blunt, STATE, blunt::ifPassed);
        checks.refused("passesBySteps with 0", blunt, STATE, blunt::passesBySteps);
        checks.refused("passesByDivision with 0", blunt, STATE, blunt::passesByDivision);
        checks.due("isFinished with 0", blunt.isFinished(), false);
        checks.due("chipsOf with 0", blunt.chipsOf(0), 480);
        for (int depth = 1; depth <= 9; depth++) {
            blunt.changeDepth(depth);
            checks.due("cutDepth with 0 of depth " + depth, blunt.cutDepth(), 0);
        }
        checks.due("sharpen", blunt.sharpen(), 0);
        checks.passes("pass when it is sharpened", blunt::pass);
    }

    private void lessByHardnessTimesSpeed() {
        checks.sentence("Behind it the sharpness becomes less by the hardness of the wood times the speed"
                + " (1 to 5, at first 2), down to 0");
        int[] hardness = {1, 2, 4};
        for (int wood = 0; wood <= 2; wood++) {
            for (int speed = 1; speed <= 5; speed++) {
                LatheCopies lathe = Checks.mounted(wood, 20);
                lathe.changeSpeed(speed);
                lathe.pass();
                checks.due("sharpness, wood " + wood + ", speed " + speed, lathe.sharpness(),
                        100 - hardness[wood] * speed);
                checks.due("ifPassed", lathe.ifPassed(), 0);
                checks.due("sharpness behind ifPassed", lathe.sharpness(), 100 - hardness[wood] * speed);
            }
        }
    }

    private void downToZero() {
        checks.sentence("Behind it the sharpness becomes less by the hardness of the wood times the speed"
                + " (1 to 5, at first 2), down to 0");
        for (int sharpness : new int[] {1, 4, 5, 6}) {
            LatheCopies lathe = Checks.sharp(sharpness);
            lathe.changeSpeed(5);
            checks.due("pass with " + sharpness, lathe.pass(), 32);
            checks.due("sharpness from " + sharpness, lathe.sharpness(), Math.max(0, sharpness - 5));
        }
        LatheCopies box = Checks.mounted(2, 120);
        box.changeSpeed(3);
        box.changeDepth(9);
        for (int pass = 1; pass <= 9; pass++) {
            box.pass();
            box.sweep();
            checks.due("sharpness after pass " + pass, box.sharpness(), Math.max(0, 100 - 12 * pass));
        }
    }

    private void passesUntilBlunt() {
        checks.sentence("Tells how many passes can be done on the mounted piece until the cutter is blunt,"
                + " without sharpening, whatever is cut.");
        int[][] due = {{0, 0}, {1, 1}, {4, 1}, {5, 1}, {6, 2}, {10, 2}, {11, 3}, {99, 20}, {100, 20}};
        for (int[] row : due) {
            LatheCopies lathe = Checks.sharp(row[0]);
            checks.due("passesUntilBlunt with speed 1 and " + row[0], lathe.passesUntilBlunt(), row[0]);
            lathe.changeSpeed(5);
            checks.due("passesUntilBlunt with speed 5 and " + row[0], lathe.passesUntilBlunt(), row[1]);
        }
        LatheCopies jammed = Checks.mounted(2, 120);
        jammed.changeDepth(9);
        jammed.changeSpeed(5);
        jammed.passUpTo(30);
        checks.due("isJammed", jammed.isJammed(), true);
        checks.due("passesUntilBlunt when jammed", jammed.passesUntilBlunt(), 3);
        LatheCopies finished = Checks.mounted(2, 20);
        finished.changeSpeed(5);
        checks.due("isFinished", finished.isFinished(), true);
        checks.due("passesUntilBlunt when finished", finished.passesUntilBlunt(), 5);
    }

    private void sharpenedAtEachEnd() {
        checks.sentence("Sharpens the cutter: its sharpness is 100.");
        for (int sharpness : new int[] {0, 1, 49, 50, 99, 100}) {
            LatheCopies lathe = Checks.sharp(sharpness);
            checks.due("sharpen from " + sharpness, lathe.sharpen(), sharpness);
            checks.due("sharpness", lathe.sharpness(), 100);
            checks.due("sharpenings", lathe.sharpenings(), 1);
            checks.due("sharpen again", lathe.sharpen(), 100);
            checks.due("sharpness again", lathe.sharpness(), 100);
            checks.due("sharpenings again", lathe.sharpenings(), 2);
        }
    }

    private void aboveTheTargetByLessThanTheDepth() {
        checks.sentence("At a step that is above its target the piece becomes thinner by the depth to which the cutter"
                + " cuts as the pass begins, or by what it is above the target, if that is less.");
        LatheCopies lathe = Checks.mounted(0, 30);
        lathe.fitFollower(0);
        Checks.load(lathe, 0, "5,26,27,28,29,30,31,99,30x7,29");
        checks.due("ifPassed", lathe.ifPassed(), 3 + 3 + 3 + 2 + 1 + 1);
        checks.due("pass", lathe.pass(), 3 + 3 + 3 + 2 + 1 + 1);
        checks.due("piece", Checks.piece(lathe, 0), "27 27 27 28 29 30 30 30 " + Checks.times("30", 7) + " 29");
        checks.due("pass again", lathe.pass(), 3 + 1);
        checks.due("piece again", Checks.piece(lathe, 0), "24 26 27 28 29 30 30 30 " + Checks.times("30", 7) + " 29");
        lathe.changeDepth(1);
        checks.due("pass with depth 1", lathe.pass(), 1);
        lathe.changeDepth(9);
        checks.due("pass with depth 9", lathe.pass(), 9);
        checks.due("first step", lathe.diameterAt(0, 0), 14);
    }

    /** The fourth pass wears the follower only behind itself. */
    private void targetsAsAtTheBeginning() {
        checks.sentence("In a pass the steps are gone through from the first one to the last one,"
                + " with the targets as they are at its beginning.");
        LatheCopies lathe = Checks.mounted(0, 30);
        for (int pass = 1; pass <= 4; pass++) {
            checks.due("pass " + pass, lathe.pass(), 0);
        }
        checks.due("wear", lathe.wear(), 1);
        checks.due("ifPassed", lathe.ifPassed(), 16);
        checks.due("pass 5", lathe.pass(), 16);
        checks.due("piece", Checks.piece(lathe, 0), Checks.times("29", 16));
    }

    private void passesToFinish() {
        checks.sentence("Tells how many passes would finish the mounted piece, if the cutter stayed as it is,"
                + " the follower did not wear, and nothing jammed");
        for (int depth = 1; depth <= 9; depth++) {
            for (int above : new int[] {-10, -1, 0, 1, depth - 1, depth, depth + 1, 5 * depth, 5 * depth + 1, 90}) {
                LatheCopies lathe = Checks.mounted(0, 30 + above);
                lathe.changeDepth(depth);
                int due = 0;
                for (int left = above; left > 0; left -= depth) {
                    due++;
                }
                String of = " of " + above + " with depth " + depth;
                checks.due("passesBySteps" + of, lathe.passesBySteps(), due);
                checks.due("passesByDivision" + of, lathe.passesByDivision(), due);
            }
        }
        LatheCopies most = Checks.mounted(2, 120);
        Checks.load(most, 0, "5x16");
        most.changeDepth(1);
        checks.due("passesBySteps of the most", most.passesBySteps(), 115);
        checks.due("passesByDivision of the most", most.passesByDivision(), 115);
        checks.due("wear", most.wear(), 0);
        checks.due("sharpness", most.sharpness(), 100);
    }

    private void finishedAtTheTarget() {
        checks.sentence("Tells whether the mounted piece is finished: it is nowhere above its target.");
        for (int step = 0; step < 16; step++) {
            LatheCopies lathe = Checks.mounted(0, 30);
            lathe.fitFollower(0);
            checks.due("isFinished at its targets", lathe.isFinished(), true);
            checks.due("passUpTo at its targets", lathe.passUpTo(30), 0);
            lathe.carve(0, step, 29);
            checks.due("isFinished, 1 above at " + step, lathe.isFinished(), false);
            checks.due("passesBySteps, 1 above at " + step, lathe.passesBySteps(), 1);
            checks.due("chipsOf, 1 above at " + step, lathe.chipsOf(0), 1);
            checks.due("passUpTo, 1 above at " + step, lathe.passUpTo(30), 1);
            lathe.carve(0, step, 99);
            checks.due("isFinished, below at " + step, lathe.isFinished(), true);
        }
    }

    private void sandedNotBelowTheTarget() {
        checks.sentence("at each step it becomes thinner by so much, but not below its target.");
        int[][] due = {{1, 1, 1, 1, 1, 0, 0}, {2, 2, 2, 2, 1, 0, 0}, {3, 3, 3, 2, 1, 0, 0}};
        for (int amount = 1; amount <= 3; amount++) {
            LatheCopies lathe = Checks.mounted(0, 30);
            lathe.fitFollower(0);
            Checks.load(lathe, 0, "5,26,27,28,29,30,31,99x8,29");
            int sum = 1;
            for (int sanded : due[amount - 1]) {
                sum += sanded;
            }
            checks.due("sand " + amount, lathe.sand(amount), sum);
            checks.due("woodTaken", lathe.woodTaken(), sum);
            for (int step = 0; step < 7; step++) {
                checks.due("sanded by " + amount + " at " + step, lathe.diameterAt(0, step), 30 - due[amount - 1][step]);
            }
            checks.due("not sanded, below its target", lathe.diameterAt(0, 14), 30);
            checks.due("sanded at the last step", lathe.diameterAt(0, 15), 29);
        }
    }

    private void sandedInEachState() {
        checks.sentence("Sands the mounted piece, which makes no chips");
        LatheCopies blunt = Checks.sharp(0);
        checks.due("sand with a blunt cutter", blunt.sand(3), 48);
        checks.due("chips", blunt.chips(), 0);
        checks.due("sharpness", blunt.sharpness(), 0);
        LatheCopies full = Checks.mounted(0, 60);
        full.changeDepth(9);
        full.passUpTo(30);
        int chips = full.chips();
        checks.due("isJammed", full.isJammed(), true);
        checks.due("sand a jammed one", full.sand(1), 16);
        checks.due("chips stay", full.chips(), chips);
        checks.due("the jam stays", full.isJammed(), true);
        checks.due("passesOn", full.passesOn(0), 2);
        checks.due("jams", full.jams(), 1);
    }
}
