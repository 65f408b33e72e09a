/** Promises 17 to 19 and 48 to 51. */
public final class CuttingTest {
    private static final Class<IllegalArgumentException> ARGUMENT = IllegalArgumentException.class;
    private static final Class<IllegalStateException> STATE = IllegalStateException.class;

    private final Checks checks = new Checks();

    public static void main(String[] args) {
        CuttingTest test = new CuttingTest();
        test.pass();
        test.passThatJams();
        test.passWithoutRoomButNothingToCut();
        test.passOfABluntCutter();
        test.passWithHalfDepth();
        test.passRefused();
        test.passUpTo();
        test.passUpToTheJam();
        test.passUpToBlunt();
        test.passUpToFollowsTheWear();
        test.passUpToRefused();
        test.sand();
        test.sandRefused();
        test.checks.end();
    }

    private void pass() {
        LatheCopies lathe = Checks.mounted(1, 32);
        lathe.carve(0, 0, 40);
        lathe.carve(0, 15, 31);
        checks.due("pass", lathe.pass(), 12 * 2 + 2);
        checks.due("piece", Checks.piece(lathe, 0), "32 32 " + Checks.times("30", 12) + " 31 31");
        checks.due("chips", lathe.chips(), 26);
        checks.due("woodTaken", lathe.woodTaken(), 26);
        checks.due("passes", lathe.passes(), 1);
        checks.due("passesOn", lathe.passesOn(0), 1);
        checks.due("sharpness", lathe.sharpness(), 96);
        checks.due("savedStates", lathe.savedStates(), 5);
        checks.due("a pass of a finished one", lathe.pass(), 0);
        checks.due("passes with it", lathe.passes(), 2);
        checks.due("sharpness behind it", lathe.sharpness(), 92);
        checks.due("jams", lathe.jams(), 0);
    }

    private void passThatJams() {
        LatheCopies lathe = Checks.mounted(2, 120);
        lathe.changeDepth(9);
        checks.due("first pass", lathe.pass(), 144);
        checks.due("second pass jams", lathe.pass(), 54);
        checks.due("piece", Checks.piece(lathe, 0), Checks.times("102", 6) + " " + Checks.times("111", 10));
        checks.due("chips", lathe.chips(), 198);
        checks.due("roomForChips", lathe.roomForChips(), 2);
        checks.due("isJammed", lathe.isJammed(), true);
        checks.due("jams", lathe.jams(), 1);
        checks.due("passes", lathe.passes(), 2);
        checks.due("passesOn", lathe.passesOn(0), 2);
        checks.due("woodTaken", lathe.woodTaken(), 198);
        checks.due("sharpness", lathe.sharpness(), 84);
        checks.refused("pass of a jammed lathe", lathe, STATE, lathe::pass);
        checks.refused("passUpTo of a jammed lathe", lathe, STATE, () -> lathe.passUpTo(1));
        checks.refused("ifPassed of a jammed lathe", lathe, STATE, lathe::ifPassed);
        lathe.sharpen();
        checks.due("sharpening leaves the jam", lathe.isJammed(), true);
        lathe.takeOut();
        checks.due("taking out leaves the jam", lathe.isJammed(), true);
        lathe.mount(0);
        lathe.sweep();
        checks.due("third pass", lathe.pass(), 144);
        lathe.pass();
        checks.due("jams", lathe.jams(), 2);
        checks.due("wear after four passes, jams among them", lathe.wear(), 1);
    }

    /** A room that is just enough takes the chips; with the room full, steps that give no chips do not jam. */
    private void passWithoutRoomButNothingToCut() {
        LatheCopies lathe = Checks.mounted(0, 55);
        lathe.fitFollower(0);
        Checks.load(lathe, 0, "30x8,55x8");
        lathe.changeDepth(5);
        for (int pass = 1; pass <= 5; pass++) {
            checks.due("pass " + pass, lathe.pass(), 40);
            lathe.fitFollower(0);
        }
        checks.due("chips fill the room", lathe.roomForChips(), 0);
        checks.due("isJammed", lathe.isJammed(), false);
        checks.due("piece", Checks.piece(lathe, 0), Checks.times("30", 8) + " " + Checks.times("55", 8));
        checks.due("a pass that cuts nothing", lathe.pass(), 0);
        checks.due("isJammed after it", lathe.isJammed(), false);
        lathe.carve(0, 3, 29);
        checks.due("a pass that would cut", lathe.pass(), 0);
        checks.due("isJammed", lathe.isJammed(), true);
        checks.due("diameter", lathe.diameterAt(0, 3), 30);
        checks.due("passes", lathe.passes(), 7);
    }

    private void passOfABluntCutter() {
        LatheCopies lathe = Checks.mounted(2, 20);
        lathe.changeSpeed(5);
        for (int pass = 1; pass <= 5; pass++) {
            checks.due("cut", lathe.pass(), 0);
            checks.due("sharpness", lathe.sharpness(), 100 - 20 * pass);
        }
        checks.refused("pass", lathe, STATE, lathe::pass);
        checks.refused("passUpTo", lathe, STATE, () -> lathe.passUpTo(3));
        checks.refused("ifPassed", lathe, STATE, lathe::ifPassed);
        lathe.sharpen();
        lathe.changeSpeed(4);
        for (int pass = 1; pass <= 6; pass++) {
            lathe.pass();
        }
        checks.due("sharpness", lathe.sharpness(), 4);
        lathe.pass();
        checks.due("sharpness is never below 0", lathe.sharpness(), 0);
    }

    /** The depth is that of the beginning of the pass, as the cutter gets blunt only behind it. */
    private void passWithHalfDepth() {
        LatheCopies lathe = Checks.mounted(2, 120);
        lathe.changeSpeed(5);
        lathe.changeDepth(5);
        checks.due("pass with 100", lathe.pass(), 80);
        lathe.sweep();
        checks.due("pass with 80", lathe.pass(), 80);
        checks.due("pass with 60", lathe.pass(), 80);
        lathe.sweep();
        checks.due("pass with 40", lathe.pass(), 48);
        checks.due("pass with 20", lathe.pass(), 48);
        checks.due("sharpness", lathe.sharpness(), 0);
        checks.due("piece", Checks.piece(lathe, 0), Checks.times("99", 16));
        checks.due("woodTaken", lathe.woodTaken(), 336);
    }

    private void passRefused() {
        LatheCopies lathe = new LatheCopies();
        lathe.addBlank(0, 60);
        checks.refused("pass with none mounted", lathe, STATE, lathe::pass);
        lathe.mount(0);
        lathe.pass();
        checks.due("savedStates", lathe.savedStates(), 3);
        lathe.takeOut();
        checks.refused("pass with none mounted any more", lathe, STATE, lathe::pass);
        checks.due("passes", lathe.passes(), 1);
    }

    private void passUpTo() {
        LatheCopies lathe = Checks.mounted(0, 37);
        checks.due("passUpTo 2", lathe.passUpTo(2), 2);
        checks.due("piece", Checks.piece(lathe, 0), Checks.times("31", 16));
        checks.due("savedStates, one for the call", lathe.savedStates(), 3);
        checks.due("passUpTo the end", lathe.passUpTo(30), 1);
        checks.due("piece", Checks.piece(lathe, 0), Checks.times("30", 16));
        checks.due("passUpTo of a finished one", lathe.passUpTo(30), 0);
        checks.due("savedStates", lathe.savedStates(), 5);
        checks.due("passes", lathe.passes(), 3);
        checks.due("passesOn", lathe.passesOn(0), 3);
        checks.due("woodTaken", lathe.woodTaken(), 112);
        checks.due("sharpness", lathe.sharpness(), 94);
        lathe.undo();
        lathe.undo();
        checks.due("undo of many passes", Checks.piece(lathe, 0), Checks.times("31", 16));
        LatheCopies one = Checks.mounted(0, 37);
        checks.due("passUpTo 1", one.passUpTo(1), 1);
    }

    private void passUpToTheJam() {
        LatheCopies lathe = Checks.mounted(0, 60);
        checks.due("passUpTo, the jam among them", lathe.passUpTo(30), 5);
        checks.due("chips", lathe.chips(), 198);
        checks.due("isJammed", lathe.isJammed(), true);
        checks.due("piece", Checks.piece(lathe, 0), Checks.times("45", 2) + " " + Checks.times("48", 14));
        checks.due("woodTaken", lathe.woodTaken(), 198);
        checks.due("jams", lathe.jams(), 1);
    }

    private void passUpToBlunt() {
        LatheCopies lathe = Checks.mounted(2, 40);
        lathe.changeSpeed(5);
        lathe.changeDepth(1);
        checks.due("passUpTo until blunt", lathe.passUpTo(30), 5);
        checks.due("sharpness", lathe.sharpness(), 0);
        checks.due("piece", Checks.piece(lathe, 0), Checks.times("35", 16));
        checks.due("passes", lathe.passes(), 5);
    }

    /** The fourth pass wears the follower, and the piece that it would have finished is above its target again. */
    private void passUpToFollowsTheWear() {
        LatheCopies lathe = Checks.mounted(0, 34);
        lathe.changeDepth(1);
        checks.due("passUpTo", lathe.passUpTo(30), 5);
        checks.due("piece", Checks.piece(lathe, 0), Checks.times("29", 16));
        checks.due("wear", lathe.wear(), 1);
        LatheCopies three = Checks.mounted(0, 33);
        three.changeDepth(1);
        checks.due("passUpTo without wear", three.passUpTo(30), 3);
    }

    private void passUpToRefused() {
        LatheCopies lathe = new LatheCopies();
        int[] wrong = {0, 31, -1, Integer.MIN_VALUE, Integer.MAX_VALUE};
        for (int passes : wrong) {
            checks.refused("passUpTo " + passes, lathe, ARGUMENT, () -> lathe.passUpTo(passes));
        }
        checks.refused("passUpTo with none mounted", lathe, STATE, () -> lathe.passUpTo(30));
        lathe.addBlank(0, 60);
        lathe.mount(0);
        for (int passes : wrong) {
            checks.refused("passUpTo " + passes + " mounted", lathe, ARGUMENT, () -> lathe.passUpTo(passes));
        }
        LatheCopies blunt = Checks.mounted(2, 20);
        blunt.changeSpeed(5);
        for (int pass = 0; pass < 5; pass++) {
            blunt.pass();
        }
        checks.refused("passUpTo of a finished one, blunt", blunt, STATE, () -> blunt.passUpTo(1));
    }

    private void sand() {
        LatheCopies lathe = Checks.mounted(2, 34);
        lathe.carve(0, 0, 40);
        lathe.carve(0, 15, 33);
        checks.due("sand 3", lathe.sand(3), 12 * 3 + 2);
        checks.due("piece", Checks.piece(lathe, 0), "34 34 " + Checks.times("31", 12) + " 33 33");
        checks.due("chips", lathe.chips(), 0);
        checks.due("passes", lathe.passes(), 0);
        checks.due("sharpness", lathe.sharpness(), 100);
        checks.due("woodTaken", lathe.woodTaken(), 38);
        checks.due("sand 2", lathe.sand(2), 12);
        checks.due("piece", Checks.piece(lathe, 0), "34 34 " + Checks.times("30", 12) + " 33 33");
        checks.due("sand 1", lathe.sand(1), 0);
        checks.due("savedStates", lathe.savedStates(), 6);
        checks.due("woodTaken", lathe.woodTaken(), 50);
        lathe.changeOffset(5);
        checks.due("sand below the target", lathe.sand(3), 0);
        LatheCopies jammed = Checks.mounted(2, 120);
        jammed.changeSpeed(5);
        jammed.changeDepth(9);
        jammed.passUpTo(30);
        checks.due("sand a jammed one", jammed.sand(1), 16);
        checks.due("it stays jammed", jammed.isJammed(), true);
        checks.due("its chips", jammed.chips(), 198);
    }

    private void sandRefused() {
        LatheCopies lathe = new LatheCopies();
        for (int amount : new int[] {0, 4, -1, Integer.MIN_VALUE, Integer.MAX_VALUE}) {
            checks.refused("sand " + amount, lathe, ARGUMENT, () -> lathe.sand(amount));
        }
        checks.refused("sand with none mounted", lathe, STATE, () -> lathe.sand(1));
        lathe.addBlank(0, 60);
        checks.refused("sand with none mounted", lathe, STATE, () -> lathe.sand(3));
        lathe.mount(0);
        for (int amount : new int[] {0, 4}) {
            checks.refused("sand " + amount + " mounted", lathe, ARGUMENT, () -> lathe.sand(amount));
        }
        checks.due("savedStates", lathe.savedStates(), 2);
    }
}
