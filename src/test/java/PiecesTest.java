/** Promises 13 to 16 and 41 to 47. */
public final class PiecesTest {
    private static final Class<IndexOutOfBoundsException> INDEX = IndexOutOfBoundsException.class;
    private static final Class<IllegalArgumentException> ARGUMENT = IllegalArgumentException.class;
    private static final Class<IllegalStateException> STATE = IllegalStateException.class;

    private final Checks checks = new Checks();

    public static void main(String[] args) {
        PiecesTest test = new PiecesTest();
        test.addBlank();
        test.addBlankRefused();
        test.burn();
        test.burnBeforeTheMounted();
        test.mountAndTakeOut();
        test.prices();
        test.passesOn();
        test.noSuchPiece();
        test.checks.end();
    }

    private void addBlank() {
        LatheCopies lathe = new LatheCopies();
        checks.due("addBlank 0", lathe.addBlank(0, 20), 0);
        checks.due("addBlank 1", lathe.addBlank(2, 120), 1);
        checks.due("addBlank 2", lathe.addBlank(1, 77), 2);
        checks.due("pieces", lathe.pieces(), 3);
        checks.due("wood of 0", lathe.woodOf(0), 0);
        checks.due("wood of 1", lathe.woodOf(1), 2);
        checks.due("wood of 2", lathe.woodOf(2), 1);
        checks.due("piece 0", Checks.piece(lathe, 0), Checks.times("20", 16));
        checks.due("piece 1", Checks.piece(lathe, 1), Checks.times("120", 16));
        checks.due("piece 2", Checks.piece(lathe, 2), Checks.times("77", 16));
        checks.due("savedStates", lathe.savedStates(), 3);
        checks.due("hasMounted", lathe.hasMounted(), false);
    }

    private void addBlankRefused() {
        LatheCopies lathe = new LatheCopies();
        for (int piece = 0; piece < 5; piece++) {
            for (int wood : new int[] {-1, 3, Integer.MIN_VALUE, Integer.MAX_VALUE}) {
                checks.refused("addBlank of wood " + wood, lathe, INDEX, () -> lathe.addBlank(wood, 50));
            }
            for (int diameter : new int[] {19, 121, -1, Integer.MIN_VALUE, Integer.MAX_VALUE}) {
                checks.refused("addBlank of " + diameter, lathe, ARGUMENT, () -> lathe.addBlank(1, diameter));
            }
            checks.due("addBlank", lathe.addBlank(1, 50), piece);
        }
        checks.refused("addBlank of a sixth", lathe, STATE, () -> lathe.addBlank(0, 50));
        checks.refused("addBlank of a sixth of no wood", lathe, INDEX, () -> lathe.addBlank(3, 19));
        checks.refused("addBlank of a sixth too thin", lathe, ARGUMENT, () -> lathe.addBlank(0, 19));
        checks.due("pieces", lathe.pieces(), 5);
        lathe.burn(4);
        checks.due("addBlank after a burnt one", lathe.addBlank(0, 20), 4);
    }

    private void burn() {
        LatheCopies lathe = new LatheCopies();
        for (int piece = 0; piece < 5; piece++) {
            lathe.addBlank(piece % 3, 20 + piece);
        }
        lathe.mount(0);
        lathe.passUpTo(1);
        lathe.pass();
        checks.due("burn 1", lathe.burn(1), 4);
        checks.due("piece 0", Checks.piece(lathe, 0), Checks.times("20", 16));
        checks.due("piece 1", Checks.piece(lathe, 1), Checks.times("22", 16));
        checks.due("piece 2", Checks.piece(lathe, 2), Checks.times("23", 16));
        checks.due("piece 3", Checks.piece(lathe, 3), Checks.times("24", 16));
        checks.due("woods", "" + lathe.woodOf(0) + lathe.woodOf(1) + lathe.woodOf(2) + lathe.woodOf(3), "0201");
        checks.due("mounted", lathe.mounted(), 0);
        checks.due("burn the last", lathe.burn(3), 3);
        checks.due("burnt", lathe.burnt(), 2);
        checks.due("pieces", lathe.pieces(), 3);
        checks.refused("burn the mounted one", lathe, STATE, () -> lathe.burn(0));
        checks.refused("burn the burnt one", lathe, INDEX, () -> lathe.burn(3));
        checks.due("passes of the piece", lathe.passesOn(0), 1);
        lathe.takeOut();
        checks.due("burn the first", lathe.burn(0), 2);
        checks.due("passes of the one behind it", lathe.passesOn(0), 0);
        checks.due("burn", lathe.burn(0), 1);
        checks.due("burn all", lathe.burn(0), 0);
        checks.refused("burn none", lathe, INDEX, () -> lathe.burn(0));
        checks.due("a new one has a new wood", lathe.addBlank(2, 44), 0);
        checks.due("its wood", lathe.woodOf(0), 2);
        checks.due("its passes", lathe.passesOn(0), 0);
    }

    private void burnBeforeTheMounted() {
        LatheCopies lathe = new LatheCopies();
        for (int piece = 0; piece < 4; piece++) {
            lathe.addBlank(0, 40 + piece);
        }
        lathe.mount(2);
        lathe.pass();
        checks.due("burn one behind", lathe.burn(3), 3);
        checks.due("mounted stays", lathe.mounted(), 2);
        checks.due("burn one before", lathe.burn(0), 2);
        checks.due("mounted has 1 less", lathe.mounted(), 1);
        checks.due("its passes go with it", lathe.passesOn(1), 1);
        checks.due("piece 1", Checks.piece(lathe, 1), Checks.times("39", 16));
        checks.due("burn one more before", lathe.burn(0), 1);
        checks.due("mounted is the first", lathe.mounted(), 0);
        LatheCopies none = new LatheCopies();
        none.addBlank(0, 40);
        none.burn(0);
        checks.due("none is mounted", none.hasMounted(), false);
        checks.due("savedStates", none.savedStates(), 2);
    }

    private void mountAndTakeOut() {
        LatheCopies lathe = new LatheCopies();
        checks.refused("mounted of none", lathe, STATE, lathe::mounted);
        checks.refused("takeOut of none", lathe, STATE, lathe::takeOut);
        lathe.addBlank(0, 40);
        lathe.addBlank(0, 41);
        checks.refused("mount no piece", lathe, INDEX, () -> lathe.mount(2));
        checks.refused("mount piece -1", lathe, INDEX, () -> lathe.mount(-1));
        lathe.mount(1);
        checks.due("hasMounted", lathe.hasMounted(), true);
        checks.due("mounted", lathe.mounted(), 1);
        checks.refused("mount another", lathe, STATE, () -> lathe.mount(0));
        checks.refused("mount the same", lathe, STATE, () -> lathe.mount(1));
        checks.refused("mount no piece now", lathe, INDEX, () -> lathe.mount(2));
        checks.due("savedStates", lathe.savedStates(), 3);
        checks.due("takeOut", lathe.takeOut(), 1);
        checks.due("hasMounted", lathe.hasMounted(), false);
        checks.due("savedStates", lathe.savedStates(), 4);
        checks.refused("takeOut again", lathe, STATE, lathe::takeOut);
        lathe.mount(0);
        checks.due("mounted", lathe.mounted(), 0);
        checks.due("pieces", lathe.pieces(), 2);
    }

    /** The division comes before the price: 16 steps with 335 together are 20 a step, rounded down. */
    private void prices() {
        LatheCopies lathe = new LatheCopies();
        for (int wood = 0; wood < 3; wood++) {
            lathe.addBlank(wood, 21);
        }
        checks.due("price of pine", lathe.priceOf(0), 42);
        checks.due("price of oak", lathe.priceOf(1), 105);
        checks.due("price of box", lathe.priceOf(2), 189);
        lathe.fitFollower(0);
        lathe.carve(0, 0, 20);
        for (int piece = 0; piece < 3; piece++) {
            lathe.mount(piece);
            lathe.pass();
            checks.due("sum of what is left", lathe.meanDiameter(piece), 335.0 / 16);
            lathe.takeOut();
        }
        checks.due("price of cut pine", lathe.priceOf(0), 40);
        checks.due("price of cut oak", lathe.priceOf(1), 100);
        checks.due("price of cut box", lathe.priceOf(2), 180);
    }

    private void passesOn() {
        LatheCopies lathe = new LatheCopies();
        lathe.addBlank(0, 60);
        lathe.addBlank(0, 60);
        lathe.mount(1);
        lathe.pass();
        lathe.passUpTo(2);
        checks.due("passes on the other", lathe.passesOn(0), 0);
        checks.due("passes on it", lathe.passesOn(1), 3);
        lathe.takeOut();
        checks.due("passes stay", lathe.passesOn(1), 3);
        lathe.burn(1);
        lathe.addBlank(0, 60);
        checks.due("passes on a new piece of that number", lathe.passesOn(1), 0);
        lathe.mount(0);
        lathe.sand(1);
        checks.due("sanding is no pass", lathe.passesOn(0), 0);
        lathe.passUpTo(30);
        checks.due("a jammed pass counts", lathe.passesOn(0), 2);
        checks.due("passes in all", lathe.passes(), 5);
    }

    private void noSuchPiece() {
        LatheCopies lathe = new LatheCopies();
        lathe.addBlank(0, 40);
        lathe.addBlank(0, 41);
        for (int piece : new int[] {-1, 2, 4, 5, Integer.MIN_VALUE, Integer.MAX_VALUE}) {
            checks.refused("woodOf " + piece, lathe, INDEX, () -> lathe.woodOf(piece));
            checks.refused("diameterAt " + piece, lathe, INDEX, () -> lathe.diameterAt(piece, 0));
            checks.refused("passesOn " + piece, lathe, INDEX, () -> lathe.passesOn(piece));
            checks.refused("priceOf " + piece, lathe, INDEX, () -> lathe.priceOf(piece));
            checks.refused("tooThick " + piece, lathe, INDEX, () -> lathe.tooThick(piece));
            checks.refused("tooThin " + piece, lathe, INDEX, () -> lathe.tooThin(piece));
            checks.refused("faultsOf " + piece, lathe, INDEX, () -> lathe.faultsOf(piece));
            checks.refused("isGood " + piece, lathe, INDEX, () -> lathe.isGood(piece));
            checks.refused("mostLike " + piece, lathe, INDEX, () -> lathe.mostLike(piece));
            checks.refused("chipsOf " + piece, lathe, INDEX, () -> lathe.chipsOf(piece));
            checks.refused("meanDiameter " + piece, lathe, INDEX, () -> lathe.meanDiameter(piece));
            checks.refused("burn " + piece, lathe, INDEX, () -> lathe.burn(piece));
            checks.refused("mount " + piece, lathe, INDEX, () -> lathe.mount(piece));
        }
        for (int step : new int[] {-1, 16, Integer.MIN_VALUE, Integer.MAX_VALUE}) {
            checks.refused("diameterAt step " + step, lathe, INDEX, () -> lathe.diameterAt(1, step));
        }
        checks.due("savedStates", lathe.savedStates(), 2);
    }
}
