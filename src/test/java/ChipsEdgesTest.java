/** The sentences of the document that name ends of the room for chips, of jams and of passes up to a number. */
public final class ChipsEdgesTest {
    private static final Class<IllegalStateException> STATE = IllegalStateException.class;

    private final Checks checks = new Checks();

    public static void main(String[] args) {
        ChipsEdgesTest test = new ChipsEdgesTest();
        test.roomJustEnough();
        test.roomOneTooLittle();
        test.fullRoomAndNothingToCut();
        test.thePassEndsThere();
        test.jamAtTheFirstAndTheLastStep();
        test.aJammedPassCounts();
        test.jammedUntilSwept();
        test.swept();
        test.upToSoMany();
        test.upToFinished();
        test.upToTheJam();
        test.upToBlunt();
        test.checks.end();
    }

    /** A lathe with so much room, with nothing jammed, and a piece at its targets, which are 30 and thick ones. */
    private static LatheCopies withRoom(int room) {
        LatheCopies lathe = Checks.mounted(0, 60);
        lathe.fitFollower(0);
        lathe.changeDepth(1);
        Checks.load(lathe, 0, "99x16");
        for (int chips = 200 - room; chips > 0; chips -= 16) {
            Checks.load(lathe, 1, chips >= 16 ? "5x16" : "5x" + chips + ",99x" + (16 - chips));
            lathe.chooseMaster(1);
            lathe.pass();
        }
        lathe.chooseMaster(0);
        lathe.fitFollower(0);
        lathe.sharpen();
        lathe.addBlank(0, 40);
        lathe.takeOut();
        lathe.mount(1);
        return lathe;
    }

    private void roomJustEnough() {
        checks.sentence("the lathe has room for 200 chips");
        for (int room : new int[] {0, 1, 2, 9, 16, 200}) {
            LatheCopies lathe = withRoom(room);
            checks.due("roomForChips", lathe.roomForChips(), room);
            checks.due("chips", lathe.chips(), 200 - room);
            checks.due("isJammed", lathe.isJammed(), false);
        }
        for (int room = 1; room <= 9; room++) {
            LatheCopies lathe = withRoom(room);
            lathe.changeDepth(room);
            lathe.carve(0, 8, 30);
            checks.due("ifPassed, just enough for " + room, lathe.ifPassed(), room);
            checks.due("pass, just enough for " + room, lathe.pass(), room);
            checks.due("isJammed", lathe.isJammed(), false);
            checks.due("roomForChips", lathe.roomForChips(), 0);
            checks.due("chips", lathe.chips(), 200);
            checks.due("jams", lathe.jams(), 0);
        }
    }

    private void roomOneTooLittle() {
        checks.sentence("If there is not room enough for the chips of a step, nothing is cut there,"
                + " the lathe is jammed, and the pass ends there.");
        for (int room = 0; room <= 8; room++) {
            LatheCopies lathe = withRoom(room);
            lathe.changeDepth(room + 1);
            lathe.carve(0, 8, 30);
            checks.due("ifPassed, 1 too little", lathe.ifPassed(), 0);
            checks.due("pass, 1 too little", lathe.pass(), 0);
            checks.due("diameter there", lathe.diameterAt(1, 8), 40);
            checks.due("isJammed", lathe.isJammed(), true);
            checks.due("roomForChips", lathe.roomForChips(), room);
            checks.due("jams", lathe.jams(), 1);
        }
    }

    private void fullRoomAndNothingToCut() {
        checks.sentence("If there is not room enough for the chips of a step");
        LatheCopies lathe = withRoom(0);
        checks.due("ifPassed", lathe.ifPassed(), 0);
        checks.due("pass", lathe.pass(), 0);
        checks.due("isJammed", lathe.isJammed(), false);
        checks.due("passUpTo of a finished one", lathe.passUpTo(30), 0);
        checks.due("jams", lathe.jams(), 0);
        lathe.carve(0, 15, 39);
        checks.due("pass with one chip", lathe.pass(), 0);
        checks.due("isJammed with one chip", lathe.isJammed(), true);
    }

    /** The steps behind the jam would have room, and are not cut all the same. */
    private void thePassEndsThere() {
        checks.sentence("nothing is cut there, the lathe is jammed, and the pass ends there");
        LatheCopies lathe = withRoom(5);
        Checks.load(lathe, 0, "40,38,40x3,36,39,40x8,39");
        lathe.changeDepth(9);
        checks.due("ifPassed", lathe.ifPassed(), 2);
        checks.due("pass", lathe.pass(), 2);
        checks.due("piece", Checks.piece(lathe, 1), "40 38 " + Checks.times("40", 14));
        checks.due("roomForChips", lathe.roomForChips(), 3);
        checks.due("isJammed", lathe.isJammed(), true);
        lathe = withRoom(7);
        Checks.load(lathe, 0, "40,38,40x3,36,39,40x8,39");
        lathe.changeDepth(9);
        checks.due("ifPassed with 7", lathe.ifPassed(), 7);
        checks.due("pass with 7", lathe.pass(), 7);
        checks.due("piece with 7", Checks.piece(lathe, 1),
                "40 38 40 40 40 36 39 " + Checks.times("40", 9));
        checks.due("isJammed with 7", lathe.isJammed(), true);
        lathe = withRoom(8);
        Checks.load(lathe, 0, "40,38,40x3,36,39,40x8,39");
        lathe.changeDepth(9);
        checks.due("ifPassed with 8", lathe.ifPassed(), 8);
        checks.due("pass with 8", lathe.pass(), 8);
        checks.due("isJammed with 8", lathe.isJammed(), false);
    }

    private void jamAtTheFirstAndTheLastStep() {
        checks.sentence("In a pass the steps are gone through from the first one to the last one");
        LatheCopies first = withRoom(0);
        Checks.load(first, 0, "30x16");
        checks.due("ifPassed, jammed at the first step", first.ifPassed(), 0);
        checks.due("pass, jammed at the first step", first.pass(), 0);
        checks.due("piece", Checks.piece(first, 1), Checks.times("40", 16));
        LatheCopies last = withRoom(47);
        Checks.load(last, 0, "30x16");
        last.changeDepth(3);
        checks.due("ifPassed, jammed at the last step", last.ifPassed(), 45);
        checks.due("pass, jammed at the last step", last.pass(), 45);
        checks.due("piece", Checks.piece(last, 1), Checks.times("37", 15) + " 40");
        checks.due("isJammed", last.isJammed(), true);
        LatheCopies none = withRoom(48);
        Checks.load(none, 0, "30x16");
        none.changeDepth(3);
        checks.due("ifPassed, room for all steps", none.ifPassed(), 48);
        checks.due("pass, room for all steps", none.pass(), 48);
        checks.due("isJammed", none.isJammed(), false);
    }

    private void aJammedPassCounts() {
        checks.sentence("A pass counts as one, also if it jams.");
        LatheCopies lathe = withRoom(0);
        int passes = lathe.passes();
        int taken = lathe.woodTaken();
        lathe.carve(0, 0, 30);
        lathe.changeSpeed(5);
        lathe.pass();
        checks.due("isJammed", lathe.isJammed(), true);
        checks.due("passes", lathe.passes(), passes + 1);
        checks.due("passesOn", lathe.passesOn(1), 1);
        checks.due("woodTaken", lathe.woodTaken(), taken);
        checks.due("sharpness", lathe.sharpness(), 95);
        for (int pass = 2; pass <= 4; pass++) {
            lathe.sweep();
            checks.due("wear", lathe.wear(), 0);
            lathe.pass();
        }
        checks.due("wear, a jammed pass among four", lathe.wear(), 1);
    }

    private void jammedUntilSwept() {
        checks.sentence("if no piece is mounted, the lathe is jammed, or the cutter is blunt");
        LatheCopies lathe = withRoom(0);
        lathe.carve(0, 0, 30);
        lathe.pass();
        checks.refused("pass", lathe, STATE, lathe::pass);
        checks.refused("passUpTo", lathe, STATE, () -> lathe.passUpTo(30));
        checks.refused("ifPassed", lathe, STATE, lathe::ifPassed);
        lathe.carve(0, 0, 99);
        checks.due("isFinished", lathe.isFinished(), true);
        checks.refused("pass of a finished one", lathe, STATE, lathe::pass);
        checks.refused("passUpTo of a finished one", lathe, STATE, () -> lathe.passUpTo(30));
        checks.refused("ifPassed of a finished one", lathe, STATE, lathe::ifPassed);
        checks.passes("passesBySteps of a jammed one", lathe::passesBySteps);
        checks.passes("passesByDivision of a jammed one", lathe::passesByDivision);
        lathe.sharpen();
        lathe.fitFollower(0);
        lathe.takeOut();
        lathe.mount(0);
        checks.due("isJammed until it is swept", lathe.isJammed(), true);
        lathe.sweep();
        checks.passes("pass when it is swept", lathe::pass);
    }

    private void swept() {
        checks.sentence("Sweeps the chips away; the lathe is not jammed then.");
        for (int room : new int[] {200, 199, 100, 1, 0}) {
            LatheCopies lathe = withRoom(room);
            checks.due("sweep", lathe.sweep(), 200 - room);
            checks.due("chips", lathe.chips(), 0);
            checks.due("roomForChips", lathe.roomForChips(), 200);
            checks.due("sweep again", lathe.sweep(), 0);
        }
        LatheCopies jammed = withRoom(2);
        jammed.carve(0, 0, 30);
        jammed.changeDepth(3);
        jammed.pass();
        checks.due("sweep of a jam", jammed.sweep(), 198);
        checks.due("isJammed", jammed.isJammed(), false);
        checks.due("jams", jammed.jams(), 1);
        checks.due("pass", jammed.pass(), 3);
    }

    private void upToSoMany() {
        checks.sentence("Does passes until so many are done");
        for (int passes = 1; passes <= 30; passes++) {
            LatheCopies lathe = withRoom(200);
            lathe.carve(0, 15, 5);
            lathe.changeDepth(1);
            lathe.changeSpeed(1);
            checks.due("passUpTo " + passes, lathe.passUpTo(passes), passes);
            checks.due("passes", lathe.passes(), passes);
            checks.due("passesOn", lathe.passesOn(1), passes);
            checks.due("chips", lathe.chips(), passes);
        }
    }

    private void upToFinished() {
        checks.sentence("Returns how many passes are done, the one that jams among them; 0 if it is finished already.");
        LatheCopies lathe = withRoom(200);
        checks.due("passUpTo, finished already", lathe.passUpTo(1), 0);
        checks.due("sharpness", lathe.sharpness(), 100);
        checks.due("passes", lathe.passes(), 0);
        lathe.carve(0, 3, 37);
        checks.due("passUpTo, finished by the last one", lathe.passUpTo(3), 3);
        lathe.carve(0, 3, 34);
        lathe.fitFollower(0);
        checks.due("passUpTo, one less than finishes", lathe.passUpTo(2), 2);
        checks.due("isFinished", lathe.isFinished(), false);
        checks.due("passUpTo, one more than finishes", lathe.passUpTo(2), 1);
        checks.due("isFinished", lathe.isFinished(), true);
    }

    private void upToTheJam() {
        checks.sentence("Returns how many passes are done, the one that jams among them; 0 if it is finished already.");
        LatheCopies lathe = withRoom(0);
        lathe.carve(0, 0, 30);
        checks.due("passUpTo, the first one jams", lathe.passUpTo(30), 1);
        checks.due("isJammed", lathe.isJammed(), true);
        lathe = withRoom(2);
        lathe.carve(0, 0, 30);
        checks.due("passUpTo, the third one jams", lathe.passUpTo(30), 3);
        checks.due("chips", lathe.chips(), 200);
        lathe = withRoom(2);
        lathe.carve(0, 0, 30);
        checks.due("passUpTo, the next one would jam", lathe.passUpTo(2), 2);
        checks.due("isJammed", lathe.isJammed(), false);
        lathe = withRoom(2);
        lathe.carve(0, 0, 38);
        checks.due("passUpTo, finished with just enough room", lathe.passUpTo(30), 2);
        checks.due("isJammed", lathe.isJammed(), false);
        checks.due("jams", lathe.jams(), 0);
    }

    private void upToBlunt() {
        checks.sentence("Does passes until so many are done, the piece is finished, the lathe is jammed,"
                + " or the cutter is blunt.");
        LatheCopies one = Checks.sharp(1);
        checks.due("passUpTo with sharpness 1", one.passUpTo(30), 1);
        checks.due("sharpness", one.sharpness(), 0);
        LatheCopies two = Checks.sharp(2);
        checks.due("passUpTo with sharpness 2", two.passUpTo(30), 2);
        checks.due("passesOn", two.passesOn(0), 19 + 3 + 2);
        LatheCopies finished = Checks.sharp(1);
        Checks.load(finished, 0, "58x16");
        checks.due("passUpTo, finished and blunt at once", finished.passUpTo(30), 1);
        checks.due("isFinished", finished.isFinished(), true);
        checks.due("sharpness", finished.sharpness(), 0);
        checks.refused("passUpTo of a finished one with a blunt cutter", finished, STATE, () -> finished.passUpTo(1));
    }
}
