/** Promises 20 to 23. */
public final class TextTest {
    private static final Class<IndexOutOfBoundsException> INDEX = IndexOutOfBoundsException.class;
    private static final Class<IllegalArgumentException> ARGUMENT = IllegalArgumentException.class;
    private static final Class<IllegalStateException> STATE = IllegalStateException.class;
    private static final int NO_MASTER = -1;

    private final Checks checks = new Checks();

    public static void main(String[] args) {
        TextTest test = new TextTest();
        test.append();
        test.clearBuffer();
        test.diameters();
        test.times();
        test.stepsTogether();
        test.otherCharacters();
        test.everyPrefixGoesOn();
        test.loadMaster();
        test.loadMasterRefused();
        test.checks.end();
    }

    private void append() {
        LatheCopies lathe = new LatheCopies();
        for (int code : new int[] {32, 127, 0, -1, Integer.MIN_VALUE, Integer.MAX_VALUE}) {
            checks.refused("append " + code, lathe, ARGUMENT, () -> lathe.append(code));
        }
        checks.due("append the least", lathe.append(33), 1);
        checks.due("append the greatest", lathe.append(126), 2);
        for (int length = 3; length <= 60; length++) {
            checks.due("append", lathe.append('5'), length);
        }
        checks.refused("append to 60", lathe, STATE, () -> lathe.append('5'));
        checks.refused("append 32 to 60", lathe, ARGUMENT, () -> lathe.append(32));
        checks.due("savedStates", lathe.savedStates(), 0);
        checks.due("clearBuffer", lathe.clearBuffer(), 60);
        checks.due("append", lathe.append('5'), 1);
    }

    private void clearBuffer() {
        LatheCopies lathe = new LatheCopies();
        checks.due("clearBuffer of nothing", lathe.clearBuffer(), 0);
        Checks.type(lathe, "0?~");
        checks.due("clearBuffer", lathe.clearBuffer(), 3);
        checks.due("clearBuffer again", lathe.clearBuffer(), 0);
        checks.due("firstError", lathe.firstError(), 0);
        checks.due("savedStates", lathe.savedStates(), 0);
    }

    private void diameters() {
        told("", 0, NO_MASTER);
        told("0", 0, NO_MASTER);
        told("05x16", 0, NO_MASTER);
        for (int digit = 1; digit <= 9; digit++) {
            told("" + digit, 1, NO_MASTER);
            told(digit + "x16", digit < 5 ? 1 : 4, digit < 5 ? NO_MASTER : digit);
            told(digit + ",", digit < 5 ? 1 : 2, NO_MASTER);
            for (int second = 0; second <= 9; second++) {
                told("" + digit + second + "x16", 5, 10 * digit + second);
            }
            told(digit + "00x16", 2, NO_MASTER);
        }
        told("995x16", 2, NO_MASTER);
        told("5x16", 4, 5);
        told("98,97x15", 8, 98);
        told("97x15,98", 8, 98);
        told("99x16", 5, 99);
    }

    private void times() {
        told("5x", 2, NO_MASTER);
        told("5x0", 2, NO_MASTER);
        told("5x01", 2, NO_MASTER);
        told("5x1", 3, NO_MASTER);
        told("5x15", 4, NO_MASTER);
        told("5x17", 3, NO_MASTER);
        told("5x160", 4, NO_MASTER);
        told("5x20", 3, NO_MASTER);
        told("5x9", 3, NO_MASTER);
        told("5xx", 2, NO_MASTER);
        told("5x,", 2, NO_MASTER);
        told("5x1x", 3, NO_MASTER);
        told("5x1x15", 3, NO_MASTER);
        told("x16", 0, NO_MASTER);
        told("5X16", 1, NO_MASTER);
        told("4x16", 1, NO_MASTER);
        told("5x10,6x6", 8, 6);
        told("5x16x", 4, NO_MASTER);
    }

    private void stepsTogether() {
        told("5x16,", 4, NO_MASTER);
        told("5x15,", 5, NO_MASTER);
        told("5x15,4", 6, NO_MASTER);
        told("5x15,40", 7, 40);
        told("5x15,6", 6, 6);
        told("5x15,6,", 6, NO_MASTER);
        told("5x15,6x", 7, NO_MASTER);
        told("5x15,6x1", 8, 6);
        told("5x15,6x2", 7, NO_MASTER);
        told("5x15,6x10", 8, NO_MASTER);
        told("5x15,6x1,", 8, NO_MASTER);
        told("5x14,6x1,7", 10, 7);
        told("5x14,6x2", 8, 6);
        told("5x14,6x3", 7, NO_MASTER);
        told("5x6,70x10", 9, 70);
        told("5x7,70x10", 8, NO_MASTER);
        told("5x7,70x9", 8, 70);
        told("5,6,7,8,9,5,6,7,8,9,5,6,7,8,9,5", 31, 9);
        told("5,6,7,8,9,5,6,7,8,9,5,6,7,8,9,5,", 31, NO_MASTER);
        told("5,6,7,8,9,5,6,7,8,9,5,6,7,8,9,", 30, NO_MASTER);
        told("5,6,7,8,9,5,6,7,8,9,5,6,7,8,9", 29, NO_MASTER);
        told("10,11,12,13,14,15,16,17,18,19,20,21,22,23,24,25", 47, 25);
        told("10x1,11x1,12x1,13x1,14x1,15x1,16x1,17x1,18x1,19x1,20x1,21x5", 59, 21);
        told("10x1,11x1,12x1,13x1,14x1,15x1,16x1,17x1,18x1,19x1,20x1,21x6", 58, NO_MASTER);
        told("10x1,11x1,12x1,13x1,14x1,15x1,16x1,17x1,18x1,19x1,20,21,22x4", 60, 22);
        told("10x1,11x1,12x1,13x1,14x1,15x1,16x1,17x1,18x1,19x1,20,21,22x3", 60, NO_MASTER);
    }

    private void otherCharacters() {
        for (int code = 33; code <= 126; code++) {
            char sign = (char) code;
            boolean digit = sign >= '0' && sign <= '9';
            told("" + sign, digit && sign != '0' ? 1 : 0, NO_MASTER);
            told("7" + sign, digit || sign == 'x' || sign == ',' ? 2 : 1, NO_MASTER);
            told("77" + sign, sign == 'x' || sign == ',' ? 3 : 2, NO_MASTER);
            told("77x" + sign, digit && sign != '0' ? 4 : 3, NO_MASTER);
            told("77x1" + sign, sign == ',' || sign >= '0' && sign <= '6' ? 5 : 4, sign == '6' ? 77 : NO_MASTER);
            told("77x2" + sign, sign == ',' ? 5 : 4, NO_MASTER);
            told("77," + sign, digit && sign != '0' ? 4 : 3, NO_MASTER);
        }
    }

    /** What is read as the beginning of a master can always be led on to a whole one. */
    private void everyPrefixGoesOn() {
        String[] whole = {"5x15,12x1", "33,44x4,9x11", "10x10,11x6", "99,5x1,6x2,7x12"};
        for (String text : whole) {
            for (int length = 0; length <= text.length(); length++) {
                LatheCopies lathe = new LatheCopies();
                Checks.type(lathe, text.substring(0, length));
                checks.due("firstError of a beginning of " + text, lathe.firstError(), length);
                Checks.type(lathe, text.substring(0, length) + "?" + text.substring(length));
                checks.due("firstError of ? in " + text, lathe.firstError(), length);
            }
        }
    }

    private void told(String text, int firstError, int greatest) {
        LatheCopies lathe = new LatheCopies();
        Checks.type(lathe, text);
        checks.due("firstError of " + text, lathe.firstError(), firstError);
        if (greatest == NO_MASTER) {
            checks.refused("loadMaster of " + text, lathe, ARGUMENT, () -> lathe.loadMaster(1));
            checks.due("clearBuffer of " + text, lathe.clearBuffer(), text.length());
        } else {
            checks.due("loadMaster of " + text, lathe.loadMaster(1), greatest);
            checks.due("clearBuffer of " + text, lathe.clearBuffer(), 0);
        }
    }

    private void loadMaster() {
        LatheCopies lathe = new LatheCopies();
        Checks.type(lathe, "5,99x3,20x10,7x1,8");
        checks.due("loadMaster", lathe.loadMaster(2), 99);
        checks.due("master 2", Checks.master(lathe, 2), "5 99 99 99 " + Checks.times("20", 10) + " 7 8");
        checks.due("master 0", Checks.master(lathe, 0), Checks.times("30", 16));
        checks.due("master 1", Checks.master(lathe, 1), Checks.times("30", 16));
        checks.due("savedStates", lathe.savedStates(), 1);
        checks.due("firstError of the cleared buffer", lathe.firstError(), 0);
        checks.refused("loadMaster again", lathe, ARGUMENT, () -> lathe.loadMaster(2));
        Checks.type(lathe, "6x16");
        checks.due("loadMaster", lathe.loadMaster(0), 6);
        Checks.type(lathe, "12");
        lathe.undo();
        checks.due("undo of it", Checks.master(lathe, 0), Checks.times("30", 16));
        checks.due("undo leaves the buffer", lathe.clearBuffer(), 2);
        lathe.undo();
        checks.due("undo of the first", Checks.master(lathe, 2), Checks.times("30", 16));
        Checks.load(lathe, 1, "9x16");
        checks.due("master 1", Checks.master(lathe, 1), Checks.times("9", 16));
    }

    private void loadMasterRefused() {
        LatheCopies lathe = new LatheCopies();
        for (int master : new int[] {-1, 3, Integer.MIN_VALUE, Integer.MAX_VALUE}) {
            checks.refused("loadMaster " + master + " of nothing", lathe, INDEX, () -> lathe.loadMaster(master));
        }
        checks.refused("loadMaster of nothing", lathe, ARGUMENT, () -> lathe.loadMaster(0));
        Checks.type(lathe, "6x16");
        for (int master : new int[] {-1, 3, Integer.MIN_VALUE, Integer.MAX_VALUE}) {
            checks.refused("loadMaster " + master, lathe, INDEX, () -> lathe.loadMaster(master));
        }
        checks.due("the buffer stays", lathe.clearBuffer(), 4);
        checks.due("savedStates", lathe.savedStates(), 0);
    }
}
