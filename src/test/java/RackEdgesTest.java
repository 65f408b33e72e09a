/** The sentences of the document that name ends of the rack, of masters, of prices and of gauging. */
public final class RackEdgesTest {
    private static final Class<IndexOutOfBoundsException> INDEX = IndexOutOfBoundsException.class;
    private static final Class<IllegalStateException> STATE = IllegalStateException.class;

    private final Checks checks = new Checks();

    public static void main(String[] args) {
        RackEdgesTest test = new RackEdgesTest();
        test.atMostFive();
        test.emptyRack();
        test.burnEachOfFive();
        test.burnBesideTheMounted();
        test.numbersInTheOrderInWhichTheyCame();
        test.mountEachOfFive();
        test.onlyTheMountedPiece();
        test.priceRoundedDown();
        test.pricesOfTheEnds();
        test.meanOfTheEnds();
        test.differsByMoreThanTheTolerance();
        test.nowhereThickerOrThinner();
        test.againstTheMasterItself();
        test.mostLikeTheLowest();
        test.slimmestTheLowest();
        test.bestCopyTheLowest();
        test.changedSteps();
        test.checks.end();
    }

    private static LatheCopies full() {
        LatheCopies lathe = new LatheCopies();
        for (int piece = 0; piece < 5; piece++) {
            lathe.addBlank(piece % 3, 50 + piece);
        }
        return lathe;
    }

    private static String diameters(LatheCopies lathe) {
        StringBuilder told = new StringBuilder();
        for (int piece = 0; piece < lathe.pieces(); piece++) {
            told.append(told.length() == 0 ? "" : " ").append(lathe.diameterAt(piece, 0));
        }
        return told.toString();
    }

    private void atMostFive() {
        checks.sentence("At most 5 pieces are in the rack, numbered from 0 in the order in which they came");
        LatheCopies lathe = new LatheCopies();
        for (int piece = 0; piece < 5; piece++) {
            checks.due("pieces", lathe.pieces(), piece);
            checks.due("addBlank", lathe.addBlank(2, 50 + piece), piece);
        }
        checks.due("pieces", lathe.pieces(), 5);
        checks.refused("a sixth", lathe, STATE, () -> lathe.addBlank(0, 20));
        checks.due("burn", lathe.burn(0), 4);
        checks.due("a fifth again", lathe.addBlank(0, 20), 4);
        checks.refused("a sixth again", lathe, STATE, () -> lathe.addBlank(0, 20));
        checks.due("diameters", diameters(lathe), "51 52 53 54 20");
    }

    private void emptyRack() {
        checks.sentence("if there is no such piece");
        LatheCopies lathe = new LatheCopies();
        checks.due("pieces", lathe.pieces(), 0);
        checks.refused("woodOf 0", lathe, INDEX, () -> lathe.woodOf(0));
        checks.refused("mount 0", lathe, INDEX, () -> lathe.mount(0));
        checks.refused("burn 0", lathe, INDEX, () -> lathe.burn(0));
        checks.refused("bestCopy", lathe, STATE, lathe::bestCopy);
        lathe.addBlank(1, 20);
        checks.due("burn the only one", lathe.burn(0), 0);
        checks.refused("woodOf 0 of an emptied rack", lathe, INDEX, () -> lathe.woodOf(0));
        checks.refused("diameterAt 0 of an emptied rack", lathe, INDEX, () -> lathe.diameterAt(0, 0));
        checks.refused("mount 0 of an emptied rack", lathe, INDEX, () -> lathe.mount(0));
        checks.refused("bestCopy of an emptied rack", lathe, STATE, lathe::bestCopy);
        checks.due("burnt", lathe.burnt(), 1);
    }

    private void burnEachOfFive() {
        checks.sentence("Burns a piece; those that came later have numbers 1 less.");
        String[] due = {"51 52 53 54", "50 52 53 54", "50 51 53 54", "50 51 52 54", "50 51 52 53"};
        String[] woods = {"1201", "0201", "0101", "0121", "0120"};
        for (int piece = 0; piece < 5; piece++) {
            LatheCopies lathe = full();
            checks.due("burn " + piece, lathe.burn(piece), 4);
            checks.due("diameters without " + piece, diameters(lathe), due[piece]);
            checks.due("woods without " + piece,
                    "" + lathe.woodOf(0) + lathe.woodOf(1) + lathe.woodOf(2) + lathe.woodOf(3), woods[piece]);
            checks.refused("woodOf 4", lathe, INDEX, () -> lathe.woodOf(4));
            checks.due("hasMounted", lathe.hasMounted(), false);
        }
    }

    private void burnBesideTheMounted() {
        checks.sentence("Burns a piece; those that came later have numbers 1 less.");
        for (int mounted = 0; mounted < 5; mounted++) {
            for (int piece = 0; piece < 5; piece++) {
                LatheCopies lathe = full();
                lathe.mount(mounted);
                lathe.pass();
                int burnt = piece;
                String what = "burn " + piece + ", mounted " + mounted;
                if (piece == mounted) {
                    checks.refused(what, lathe, STATE, () -> lathe.burn(burnt));
                } else {
                    checks.due(what, lathe.burn(piece), 4);
                    checks.due("mounted behind " + what, lathe.mounted(), piece < mounted ? mounted - 1 : mounted);
                    checks.due("its diameter behind " + what, lathe.diameterAt(lathe.mounted(), 15), 47 + mounted);
                    checks.due("its passes behind " + what, lathe.passesOn(lathe.mounted()), 1);
                    checks.due("takeOut behind " + what, lathe.takeOut(), piece < mounted ? mounted - 1 : mounted);
                }
            }
        }
    }

    private void numbersInTheOrderInWhichTheyCame() {
        checks.sentence("numbered from 0 in the order in which they came");
        LatheCopies lathe = full();
        lathe.burn(2);
        lathe.burn(0);
        checks.due("addBlank", lathe.addBlank(0, 60), 3);
        checks.due("addBlank", lathe.addBlank(0, 61), 4);
        checks.due("diameters", diameters(lathe), "51 53 54 60 61");
        lathe.mount(4);
        lathe.pass();
        lathe.takeOut();
        lathe.burn(4);
        lathe.addBlank(1, 70);
        checks.due("passes of a new one with an old number", lathe.passesOn(4), 0);
        checks.due("wood of a new one with an old number", lathe.woodOf(4), 1);
        checks.due("piece", Checks.piece(lathe, 4), Checks.times("70", 16));
    }

    private void mountEachOfFive() {
        checks.sentence("One of them can be mounted.");
        for (int piece = 0; piece < 5; piece++) {
            LatheCopies lathe = full();
            lathe.mount(piece);
            checks.due("mounted", lathe.mounted(), piece);
            for (int other = 0; other < 5; other++) {
                int second = other;
                checks.refused("mount " + second, lathe, STATE, () -> lathe.mount(second));
            }
            checks.refused("mount 5", lathe, INDEX, () -> lathe.mount(5));
            checks.due("takeOut", lathe.takeOut(), piece);
            checks.refused("takeOut again", lathe, STATE, lathe::takeOut);
            checks.refused("mounted of none", lathe, STATE, lathe::mounted);
        }
    }

    /** Thick pieces stand before and behind the mounted one, which is above its target at the first or the last step. */
    private void onlyTheMountedPiece() {
        checks.sentence("One of them can be mounted.");
        for (String master : new String[] {"30,50x15", "50x15,30"}) {
            for (int piece = 0; piece < 3; piece++) {
                LatheCopies lathe = new LatheCopies();
                for (int number = 0; number < 3; number++) {
                    lathe.addBlank(number, number == piece ? 50 : 120);
                }
                lathe.fitFollower(0);
                Checks.load(lathe, 0, master);
                lathe.mount(piece);
                checks.due("ifPassed", lathe.ifPassed(), 3);
                checks.due("passesBySteps", lathe.passesBySteps(), 7);
                checks.due("passesByDivision", lathe.passesByDivision(), 7);
                checks.due("chipsOf", lathe.chipsOf(piece), 20);
                checks.due("tooThick", lathe.tooThick(piece), 20);
                checks.due("tooThin", lathe.tooThin(piece), 0);
                checks.due("faultsOf", lathe.faultsOf(piece), 1);
                checks.due("pass", lathe.pass(), 3);
                checks.due("sand", lathe.sand(3), 3);
                checks.due("passUpTo", lathe.passUpTo(2), 2);
                checks.due("sand", lathe.sand(2), 2);
                checks.due("passUpTo", lathe.passUpTo(2), 2);
                checks.due("isFinished", lathe.isFinished(), false);
                lathe.changeOffset(1);
                checks.due("isFinished, with wear 1 and offset 1", lathe.isFinished(), true);
                for (int other = 0; other < 3; other++) {
                    if (other != piece) {
                        checks.due("another piece", Checks.piece(lathe, other), Checks.times("120", 16));
                        checks.due("passesOn another piece", lathe.passesOn(other), 0);
                    }
                }
            }
        }
    }

    /** Sums of 640, which is 16 times 40, down to 623, which is 1 less than 16 times 39. */
    private void priceRoundedDown() {
        checks.sentence("the sum of its diameters, divided by 16, times the price of its wood");
        int[] prices = {2, 5, 9};
        for (int wood = 0; wood <= 2; wood++) {
            LatheCopies lathe = Checks.mounted(wood, 40);
            lathe.fitFollower(0);
            Checks.load(lathe, 0, "99x15,5");
            for (int less = 0; less <= 17; less++) {
                checks.due("meanDiameter", lathe.meanDiameter(0), (640 - less) / 16.0);
                checks.due("priceOf wood " + wood + " of a sum of " + (640 - less), lathe.priceOf(0),
                        (less == 0 ? 40 : less <= 16 ? 39 : 38) * prices[wood]);
                checks.due("sand", lathe.sand(1), 1);
            }
        }
    }

    private void pricesOfTheEnds() {
        checks.sentence("0, pine, with a hardness of 1 and a price of 2; 1, oak, with a hardness of 2 and a price of 5;"
                + " and 2, box, with a hardness of 4 and a price of 9.");
        int[][] due = {{40, 240}, {100, 600}, {180, 1080}};
        for (int wood = 0; wood <= 2; wood++) {
            LatheCopies lathe = new LatheCopies();
            lathe.addBlank(wood, 20);
            lathe.addBlank(wood, 120);
            checks.due("priceOf the thinnest of wood " + wood, lathe.priceOf(0), due[wood][0]);
            checks.due("priceOf the thickest of wood " + wood, lathe.priceOf(1), due[wood][1]);
        }
    }

    /** The thinnest piece that there can be is cut down to a target of 1 at each step. */
    private void meanOfTheEnds() {
        checks.sentence("Returns the sum of its diameters as a double, divided by 16.");
        LatheCopies lathe = Checks.mounted(0, 20);
        Checks.load(lathe, 0, "99x16");
        lathe.changeSpeed(1);
        for (int pass = 1; pass <= 16; pass++) {
            lathe.pass();
        }
        Checks.load(lathe, 0, "5x16");
        for (int pass = 1; pass <= 7; pass++) {
            lathe.sand(3);
        }
        checks.due("meanDiameter of the thinnest", lathe.meanDiameter(0), 1.0);
        checks.due("priceOf the thinnest", lathe.priceOf(0), 2);
        lathe.addBlank(2, 120);
        checks.due("meanDiameter of the thickest", lathe.meanDiameter(1), 120.0);
        for (int step = 0; step < 16; step++) {
            LatheCopies sanded = Checks.mounted(0, 33);
            sanded.fitFollower(0);
            Checks.load(sanded, 0, "99x16");
            sanded.carve(0, step, 32);
            sanded.sand(3);
            checks.due("meanDiameter, 1 less at " + step, sanded.meanDiameter(0), 32.9375);
        }
    }

    private void differsByMoreThanTheTolerance() {
        checks.sentence("Tells at how many steps a piece differs by more than the tolerance"
                + " from the master under the follower.");
        for (int tolerance : new int[] {0, 1, 2, 19, 20}) {
            for (int step : new int[] {0, 7, 15}) {
                for (int sign = -1; sign <= 1; sign += 2) {
                    LatheCopies lathe = new LatheCopies();
                    lathe.addBlank(0, 50);
                    lathe.changeTolerance(tolerance);
                    Checks.load(lathe, 0, "50x16");
                    lathe.carve(0, step, 50 + sign * tolerance);
                    String of = " of " + sign + " times the tolerance " + tolerance + " at " + step;
                    checks.due("faultsOf" + of, lathe.faultsOf(0), 0);
                    checks.due("isGood" + of, lathe.isGood(0), true);
                    lathe.carve(0, step, 50 + sign * (tolerance + 1));
                    checks.due("faultsOf 1 more" + of, lathe.faultsOf(0), 1);
                    checks.due("isGood 1 more" + of, lathe.isGood(0), false);
                }
            }
        }
    }

    private void nowhereThickerOrThinner() {
        checks.sentence("Returns by how much, 0 if it is nowhere thicker. .. 0 if it is nowhere thinner.");
        for (int step = 0; step < 16; step++) {
            LatheCopies lathe = new LatheCopies();
            lathe.addBlank(0, 120);
            lathe.addBlank(0, 50);
            lathe.addBlank(0, 20);
            Checks.load(lathe, 1, "50x16");
            lathe.chooseMaster(1);
            checks.due("tooThick, alike", lathe.tooThick(1), 0);
            checks.due("tooThin, alike", lathe.tooThin(1), 0);
            lathe.carve(1, step, 49);
            checks.due("tooThick, 1 thicker at " + step, lathe.tooThick(1), 1);
            checks.due("tooThin, 1 thicker at " + step, lathe.tooThin(1), 0);
            lathe.carve(1, step, 51);
            checks.due("tooThick, 1 thinner at " + step, lathe.tooThick(1), 0);
            checks.due("tooThin, 1 thinner at " + step, lathe.tooThin(1), 1);
        }
        LatheCopies ends = new LatheCopies();
        ends.addBlank(0, 120);
        ends.addBlank(0, 20);
        Checks.load(ends, 0, "5x8,99x8");
        checks.due("tooThick, the most", ends.tooThick(0), 115);
        checks.due("tooThin, nowhere", ends.tooThin(0), 0);
        checks.due("tooThick", ends.tooThick(1), 15);
        Checks.load(ends, 0, "99x16");
        checks.due("tooThick, everywhere thinner", ends.tooThick(1), 0);
        checks.due("tooThin, everywhere thinner", ends.tooThin(1), 79);
        checks.due("tooThin, everywhere thicker", ends.tooThin(0), 0);
        checks.due("tooThick, everywhere thicker", ends.tooThick(0), 21);
        checks.due("tooThin, the most of a blank", ends.tooThin(1), 79);
    }

    private void againstTheMasterItself() {
        checks.sentence("Pieces are gauged against the master itself, not against the targets.");
        LatheCopies lathe = Checks.mounted(0, 30);
        lathe.carve(0, 8, 40);
        lathe.changeOffset(5);
        lathe.fitFollower(3);
        for (int pass = 1; pass <= 8; pass++) {
            lathe.pass();
        }
        checks.due("tooThick", lathe.tooThick(0), 0);
        checks.due("tooThin", lathe.tooThin(0), 10);
        checks.due("faultsOf", lathe.faultsOf(0), 1);
        checks.due("isGood", lathe.isGood(0), false);
        checks.due("mostLike", lathe.mostLike(0), 1);
    }

    private void mostLikeTheLowest() {
        checks.sentence("Returns the master, of several the lowest.");
        int[][] rows = {{0, 0, 0, 0}, {1, 0, 0, 1}, {1, 1, 0, 2}, {1, 0, 1, 1}, {0, 1, 0, 0}, {0, 0, 1, 0}, {2, 1, 1, 1}};
        for (int[] row : rows) {
            LatheCopies lathe = new LatheCopies();
            lathe.addBlank(0, 50);
            for (int master = 0; master < 3; master++) {
                Checks.load(lathe, master, "50x16");
                lathe.carve(master, 5 * master, 50 + (master == 1 ? -1 : 1) * row[master]);
            }
            checks.due("mostLike", lathe.mostLike(0), row[3]);
        }
        LatheCopies signs = new LatheCopies();
        signs.addBlank(0, 50);
        Checks.load(signs, 0, "5x8,95x8");
        Checks.load(signs, 1, "51x16");
        Checks.load(signs, 2, "49x15,50");
        checks.due("mostLike, without their signs", signs.mostLike(0), 2);
    }

    private void slimmestTheLowest() {
        checks.sentence("Finds the slimmest master: the sum of its diameters is the least.");
        int[][] rows = {{0, 0, 0, 0}, {1, 0, 0, 1}, {1, 1, 0, 2}, {1, 0, 1, 1}, {0, 1, 0, 0}, {0, 0, 1, 0}, {2, 1, 1, 1}};
        for (int[] row : rows) {
            LatheCopies lathe = new LatheCopies();
            for (int master = 0; master < 3; master++) {
                lathe.carve(master, 15 - 7 * master, 30 + row[master]);
            }
            checks.due("slimmestMaster", lathe.slimmestMaster(), row[3]);
            for (int master = 0; master < 3; master++) {
                lathe.carve(master, 15 - 7 * master, 30);
                lathe.carve(master, 0, 40 - row[2 - master]);
            }
            checks.due("slimmestMaster by the first step", lathe.slimmestMaster(), slimmest(row));
        }
    }

    /** The first of the masters that has the most taken off, where the rows tell the masters from the last one on. */
    private static int slimmest(int[] row) {
        return row[2] >= row[1] && row[2] >= row[0] ? 0 : row[1] >= row[0] ? 1 : 2;
    }

    private void bestCopyTheLowest() {
        checks.sentence("with the fewest faults, of several with the least sum of the differences"
                + " from the master under the follower, of these the lowest.");
        int[][] rows = {
            {30, 30, 30, 30, 30, 0}, {31, 30, 30, 30, 30, 1}, {31, 29, 32, 28, 30, 4}, {31, 29, 31, 29, 31, 0},
            {33, 32, 28, 31, 29, 3}, {60, 61, 59, 58, 57, 4}, {57, 58, 59, 60, 61, 0}, {33, 27, 32, 28, 33, 2},
        };
        for (int[] row : rows) {
            LatheCopies lathe = new LatheCopies();
            for (int piece = 0; piece < 5; piece++) {
                lathe.addBlank(0, row[piece]);
            }
            checks.due("bestCopy", lathe.bestCopy(), row[5]);
        }
        LatheCopies lathe = new LatheCopies();
        lathe.addBlank(0, 33);
        lathe.addBlank(0, 99);
        Checks.load(lathe, 0, "30x15,99");
        checks.due("bestCopy, fewer faults before a lesser sum", lathe.bestCopy(), 1);
    }

    private void changedSteps() {
        checks.sentence("Returns at how many steps it is another one then.");
        LatheCopies lathe = new LatheCopies();
        checks.due("mirrorMaster of none", lathe.mirrorMaster(2), 0);
        for (int step = 0; step < 16; step++) {
            lathe = new LatheCopies();
            lathe.carve(2, step, 31);
            checks.due("mirrorMaster of one at " + step, lathe.mirrorMaster(2), 2);
            checks.due("it is at the other side", lathe.masterAt(2, 15 - step), 31);
            checks.due("and not at its own", lathe.masterAt(2, step), 30);
            checks.due("copyMaster of one at " + step, lathe.copyMaster(2, 0), 1);
            checks.due("copyMaster of one back", lathe.copyMaster(1, 2), 1);
            checks.due("copyMaster of none", lathe.copyMaster(2, 1), 0);
        }
        Checks.load(lathe, 0, "5x8,99x8");
        checks.due("mirrorMaster of all", lathe.mirrorMaster(0), 16);
        checks.due("mirrorMaster back", lathe.mirrorMaster(0), 16);
        checks.due("copyMaster of all", lathe.copyMaster(0, 1), 16);
        checks.due("copyMaster to itself", lathe.copyMaster(0, 0), 0);
    }
}
