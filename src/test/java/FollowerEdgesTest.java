/** The sentences of the document that name ends of the follower: its tip, its wear, its readings and targets. */
public final class FollowerEdgesTest {
    private final Checks checks = new Checks();

    public static void main(String[] args) {
        FollowerEdgesTest test = new FollowerEdgesTest();
        test.tipAtTheEnds();
        test.greatestOfAllCovered();
        test.grooveAsWideAsTheTip();
        test.lostOnlyIfMore();
        test.targetAtLeastOne();
        test.targetsOfTheGreatestNumbers();
        test.fourthPass();
        test.sinceTheFollowerIsNew();
        test.eachPassWears();
        test.wearUpToThirty();
        test.notBelowTheMasterByMoreThanTheWear();
        test.checks.end();
    }

    /** One thick step, and thick masters on both sides of the one that is traced. */
    private void tipAtTheEnds() {
        checks.sentence("Its tip covers a step and as many steps on either side as its radius tells,"
                + " as far as there are such.");
        for (int radius = 0; radius <= 3; radius++) {
            for (int thick = 0; thick < 16; thick++) {
                LatheCopies lathe = new LatheCopies();
                Checks.load(lathe, 0, "99x16");
                Checks.load(lathe, 1, "10x16");
                Checks.load(lathe, 2, "98x16");
                lathe.carve(1, thick, 50);
                lathe.chooseMaster(1);
                lathe.fitFollower(radius);
                for (int step = 0; step < 16; step++) {
                    int due = Math.abs(step - thick) <= radius ? 50 : 10;
                    String at = " at " + step + " with radius " + radius + ", thick at " + thick;
                    checks.due("readingByLooking" + at, lathe.readingByLooking(step), due);
                    checks.due("readingByQueue" + at, lathe.readingByQueue(step), due);
                    checks.due("targetAt" + at, lathe.targetAt(step), due);
                }
            }
        }
    }

    /** Rising, falling, even and zigzag masters, in which the row of those that wait is long, short and in between. */
    private void greatestOfAllCovered() {
        checks.sentence("Its reading at a step is the greatest diameter of the master of all steps that it covers then.");
        int[][] masters = {
            {5, 6, 7, 8, 9, 10, 11, 12, 13, 14, 15, 16, 17, 18, 19, 20},
            {20, 19, 18, 17, 16, 15, 14, 13, 12, 11, 10, 9, 8, 7, 6, 5},
            {9, 9, 9, 9, 9, 9, 9, 9, 9, 9, 9, 9, 9, 9, 9, 9},
            {9, 8, 9, 8, 9, 8, 9, 8, 9, 8, 9, 8, 9, 8, 9, 8},
            {99, 5, 98, 6, 97, 7, 96, 8, 95, 9, 94, 10, 93, 11, 92, 12},
            {50, 40, 30, 20, 50, 40, 30, 20, 50, 40, 30, 20, 50, 40, 30, 20},
            {20, 30, 40, 50, 20, 30, 40, 50, 20, 30, 40, 50, 20, 30, 40, 50},
            {99, 5, 5, 5, 5, 5, 5, 5, 5, 5, 5, 5, 5, 5, 5, 99},
        };
        for (int[] master : masters) {
            for (int radius = 0; radius <= 3; radius++) {
                LatheCopies lathe = new LatheCopies();
                for (int step = 0; step < 16; step++) {
                    lathe.carve(0, step, master[step]);
                }
                lathe.fitFollower(radius);
                int lost = 0;
                for (int step = 0; step < 16; step++) {
                    int due = greatest(master, step - radius, step + radius);
                    lost += due > master[step] ? 1 : 0;
                    checks.due("readingByLooking at " + step, lathe.readingByLooking(step), due);
                    checks.due("readingByQueue at " + step, lathe.readingByQueue(step), due);
                }
                checks.due("lostGrooves", lathe.lostGrooves(), lost);
            }
        }
    }

    private static int greatest(int[] master, int first, int last) {
        int greatest = 0;
        for (int step = 0; step < 16; step++) {
            if (step >= first && step <= last) {
                greatest = Math.max(greatest, master[step]);
            }
        }
        return greatest;
    }

    /** A groove of 2 * radius steps is lost whole, one of 2 * radius + 1 has its middle read. */
    private void grooveAsWideAsTheTip() {
        checks.sentence("a tip that cannot enter narrow grooves");
        for (int radius = 1; radius <= 3; radius++) {
            LatheCopies lathe = new LatheCopies();
            lathe.fitFollower(radius);
            Checks.load(lathe, 0, "40x4,10x" + 2 * radius + ",40x" + (12 - 2 * radius));
            checks.due("lostGrooves of a narrow one", lathe.lostGrooves(), 2 * radius);
            lathe.carve(0, 4 + 2 * radius, 10);
            checks.due("lostGrooves of one just wide enough", lathe.lostGrooves(), 2 * radius);
            for (int step = 0; step < 16; step++) {
                checks.due("reading at " + step, lathe.readingByQueue(step), step == 4 + radius ? 10 : 40);
            }
        }
    }

    private void lostOnlyIfMore() {
        checks.sentence("Tells at how many steps the follower cannot enter the master:"
                + " the reading is more than the diameter there.");
        LatheCopies lathe = new LatheCopies();
        lathe.fitFollower(3);
        checks.due("lostGrooves, all alike", lathe.lostGrooves(), 0);
        lathe.carve(0, 8, 31);
        checks.due("lostGrooves, three on either side", lathe.lostGrooves(), 6);
        lathe.carve(0, 0, 31);
        lathe.carve(0, 15, 31);
        checks.due("lostGrooves, the first and the last step thick", lathe.lostGrooves(), 12);
        lathe.changeOffset(5);
        checks.due("lostGrooves, whatever the offset", lathe.lostGrooves(), 12);
        lathe.fitFollower(0);
        checks.due("lostGrooves, radius 0", lathe.lostGrooves(), 0);
        Checks.load(lathe, 0, "5x3,99,5x3,99,5x3,99,5x3,99");
        lathe.fitFollower(3);
        checks.due("lostGrooves, all but four", lathe.lostGrooves(), 12);
    }

    private void targetAtLeastOne() {
        checks.sentence("The target at a step is the reading there, less the wear, and more by the offset"
                + " (0 to 5, at first 0), but at least 1.");
        LatheCopies lathe = worn(3, "5x16");
        checks.due("target of 5 - 3", lathe.targetAt(0), 2);
        lathe = worn(4, "5x16");
        checks.due("target of 5 - 4", lathe.targetAt(15), 1);
        lathe = worn(5, "5x8,6x8");
        checks.due("target of 5 - 5", lathe.targetAt(0), 1);
        checks.due("target of 6 - 5", lathe.targetAt(15), 1);
        checks.due("target of 6 - 5, beside it", lathe.targetAt(7), 1);
        lathe.changeOffset(1);
        checks.due("target of 5 - 5 + 1", lathe.targetAt(0), 1);
        checks.due("target of 6 - 5 + 1", lathe.targetAt(15), 2);
        lathe = worn(30, "5x14,30,31");
        checks.due("target of 5 - 30", lathe.targetAt(0), 1);
        checks.due("target of 31 - 30", lathe.targetAt(14), 1);
        lathe.changeOffset(5);
        checks.due("target of 5 - 30 + 5", lathe.targetAt(0), 1);
        checks.due("target of 31 - 30 + 5", lathe.targetAt(15), 6);
        checks.due("reading of 5, whatever the wear", lathe.readingByLooking(0), 5);
    }

    private void targetsOfTheGreatestNumbers() {
        checks.sentence("The target at a step is the reading there, less the wear, and more by the offset"
                + " (0 to 5, at first 0), but at least 1.");
        LatheCopies lathe = new LatheCopies();
        Checks.load(lathe, 0, "99x16");
        lathe.changeOffset(5);
        checks.due("target of 99 + 5", lathe.targetAt(0), 104);
        lathe.changeOffset(0);
        checks.due("target of 99", lathe.targetAt(15), 99);
        lathe = worn(30, "99x16");
        checks.due("target of 99 - 30", lathe.targetAt(8), 69);
    }

    private void fourthPass() {
        checks.sentence("With each fourth pass since the follower is new, its wear becomes 1 more, up to 30.");
        LatheCopies lathe = thin();
        checks.due("wear of a new one", lathe.wear(), 0);
        for (int pass = 1; pass <= 17; pass++) {
            lathe.pass();
            checks.due("wear after pass " + pass, lathe.wear(), pass / 4);
        }
    }

    private void sinceTheFollowerIsNew() {
        checks.sentence("Fits a new follower: its wear is 0.");
        LatheCopies lathe = thin();
        for (int pass = 1; pass <= 7; pass++) {
            lathe.pass();
        }
        checks.due("fitFollower", lathe.fitFollower(1), 1);
        checks.due("wear of a new one with the same radius", lathe.wear(), 0);
        checks.due("fitFollower at once again", lathe.fitFollower(2), 0);
        for (int pass = 1; pass <= 9; pass++) {
            lathe.pass();
            checks.due("wear of the new one after pass " + pass, lathe.wear(), pass / 4);
        }
        lathe.sharpen();
        lathe.takeOut();
        lathe.addBlank(0, 20);
        lathe.mount(1);
        lathe.chooseMaster(1);
        for (int pass = 10; pass <= 12; pass++) {
            lathe.pass();
            checks.due("wear after pass " + pass + ", on two pieces", lathe.wear(), pass / 4);
        }
    }

    private void eachPassWears() {
        checks.sentence("A pass counts as one, also if it jams. Behind it .. the follower wears, as told above.");
        LatheCopies lathe = Checks.mounted(0, 120);
        lathe.changeDepth(9);
        for (int pass = 1; pass <= 8; pass++) {
            lathe.pass();
            checks.due("wear after pass " + pass + ", every second one jams", lathe.wear(), pass / 4);
            if (lathe.isJammed()) {
                lathe.sweep();
            }
        }
        lathe = Checks.mounted(0, 120);
        lathe.passUpTo(3);
        lathe.ifPassed();
        lathe.passesBySteps();
        lathe.sand(3);
        lathe.sand(3);
        checks.due("wear after three passes, two sandings", lathe.wear(), 0);
        checks.due("passUpTo, where the fourth pass jams", lathe.passUpTo(30), 2);
        checks.due("wear after the jam", lathe.wear(), 1);
    }

    private void wearUpToThirty() {
        checks.sentence("With each fourth pass since the follower is new, its wear becomes 1 more, up to 30.");
        LatheCopies lathe = worn(29, "99x16");
        checks.due("wear after 116 passes", lathe.wear(), 29);
        lathe.sharpen();
        for (int pass = 117; pass <= 128; pass++) {
            lathe.pass();
            checks.due("wear after pass " + pass, lathe.wear(), pass < 120 ? 29 : 30);
        }
        checks.due("targetAt with the most wear", lathe.targetAt(0), 69);
        checks.due("fitFollower with the most wear", lathe.fitFollower(3), 30);
        checks.due("wear of the new one", lathe.wear(), 0);
        for (int pass = 1; pass <= 4; pass++) {
            lathe.pass();
        }
        checks.due("wear of the new one after four passes", lathe.wear(), 1);
    }

    private void notBelowTheMasterByMoreThanTheWear() {
        checks.sentence("So no step is cut to be thinner than its master there by more than the wear of then.");
        LatheCopies lathe = Checks.mounted(0, 32);
        lathe.fitFollower(0);
        lathe.changeDepth(9);
        for (int pass = 1; pass <= 20; pass++) {
            int wear = lathe.wear();
            lathe.pass();
            checks.due("tooThin after pass " + pass, lathe.tooThin(0), wear);
        }
    }

    /** A lathe with a piece that is thinner than each target, so that passes cut nothing. */
    private static LatheCopies thin() {
        LatheCopies lathe = Checks.mounted(0, 20);
        Checks.load(lathe, 0, "99x16");
        Checks.load(lathe, 1, "98x16");
        lathe.changeSpeed(1);
        return lathe;
    }

    private static LatheCopies worn(int wear, String master) {
        LatheCopies lathe = thin();
        for (int pass = 0; pass < 4 * wear; pass++) {
            if (pass % 99 == 49) {
                lathe.sharpen();
            }
            lathe.pass();
        }
        Checks.load(lathe, 0, master);
        return lathe;
    }
}
