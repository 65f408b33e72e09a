/** Promise 1. */
public final class NewObjectTest {
    public static void main(String[] args) {
        Checks checks = new Checks();
        LatheCopies lathe = new LatheCopies();
        for (int master = 0; master < 3; master++) {
            checks.due("master " + master, Checks.master(lathe, master), Checks.times("30", 16));
        }
        checks.due("chosenMaster", lathe.chosenMaster(), 0);
        checks.due("radius", lathe.radius(), 1);
        checks.due("wear", lathe.wear(), 0);
        checks.due("offset", lathe.offset(), 0);
        checks.due("sharpness", lathe.sharpness(), 100);
        checks.due("depth", lathe.depth(), 3);
        checks.due("cutDepth", lathe.cutDepth(), 3);
        checks.due("speed", lathe.speed(), 2);
        checks.due("tolerance", lathe.tolerance(), 2);
        checks.due("chips", lathe.chips(), 0);
        checks.due("roomForChips", lathe.roomForChips(), 200);
        checks.due("isJammed", lathe.isJammed(), false);
        checks.due("pieces", lathe.pieces(), 0);
        checks.due("hasMounted", lathe.hasMounted(), false);
        checks.due("passes", lathe.passes(), 0);
        checks.due("woodTaken", lathe.woodTaken(), 0);
        checks.due("sharpenings", lathe.sharpenings(), 0);
        checks.due("jams", lathe.jams(), 0);
        checks.due("burnt", lathe.burnt(), 0);
        checks.due("savedStates", lathe.savedStates(), 0);
        checks.due("firstError", lathe.firstError(), 0);
        checks.due("clearBuffer", lathe.clearBuffer(), 0);
        checks.refused("goBack(0)", lathe, IllegalStateException.class, () -> lathe.goBack(0));
        checks.refused("goBack(1)", lathe, IllegalStateException.class, () -> lathe.goBack(1));
        checks.refused("undo()", lathe, IllegalStateException.class, lathe::undo);
        LatheCopies other = new LatheCopies();
        lathe.carve(0, 0, 99);
        checks.due("another object's master", other.masterAt(0, 0), 30);
        checks.end();
    }
}
