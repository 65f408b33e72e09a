/** The sentences of the document that name ends of the buffer and of masters as texts. */
public final class TextEdgesTest {
    private static final Class<IllegalArgumentException> ARGUMENT = IllegalArgumentException.class;
    private static final Class<IllegalStateException> STATE = IllegalStateException.class;
    private static final int NO_MASTER = -1;

    private final Checks checks = new Checks();

    public static void main(String[] args) {
        TextEdgesTest test = new TextEdgesTest();
        test.atMostSixty();
        test.emptyBuffer();
        test.errorAtEachPlaceOfAFullBuffer();
        test.howeverLong();
        test.fullBufferThatIsAMaster();
        test.diameterFiveToNinetyNine();
        test.timesOneToSixteen();
        test.sixteenTogether();
        test.leftOutIsOne();
        test.fromTheFirstStepOn();
        test.greatestAtEachStep();
        test.clearedOnlyIfLoaded();
        test.codesAtTheEnds();
        test.checks.end();
    }

    private void read(String text, int firstError, int greatest) {
        LatheCopies lathe = new LatheCopies();
        Checks.type(lathe, text);
        checks.due("firstError of " + text, lathe.firstError(), firstError);
        if (greatest == NO_MASTER) {
            checks.refused("loadMaster of " + text, lathe, ARGUMENT, () -> lathe.loadMaster(2));
        } else {
            checks.due("loadMaster of " + text, lathe.loadMaster(2), greatest);
        }
    }

    private void atMostSixty() {
        checks.sentence("The buffer has at most 60 characters.");
        LatheCopies lathe = new LatheCopies();
        for (int length = 1; length <= 60; length++) {
            checks.due("append", lathe.append('9'), length);
        }
        checks.refused("append to 60", lathe, STATE, () -> lathe.append('9'));
        checks.due("clearBuffer", lathe.clearBuffer(), 60);
        checks.due("append to the cleared one", lathe.append('9'), 1);
        for (int length = 2; length <= 59; length++) {
            lathe.append('9');
        }
        checks.due("append to 59", lathe.append('9'), 60);
        checks.refused("append to 60 again", lathe, STATE, () -> lathe.append('9'));
    }

    private void emptyBuffer() {
        checks.sentence("Returns the length that it had.");
        LatheCopies lathe = new LatheCopies();
        checks.due("clearBuffer", lathe.clearBuffer(), 0);
        checks.due("firstError of an empty one", lathe.firstError(), 0);
        checks.refused("loadMaster of an empty one", lathe, ARGUMENT, () -> lathe.loadMaster(0));
        lathe.append('5');
        checks.due("clearBuffer of one", lathe.clearBuffer(), 1);
        checks.due("clearBuffer again", lathe.clearBuffer(), 0);
    }

    private void errorAtEachPlaceOfAFullBuffer() {
        checks.sentence("Returns the index of the first character that is a syntax error;"
                + " the length of the buffer if there is none.");
        String whole = "10x1,11x1,12x1,13x1,14x1,15x1,16x1,17x1,18x1,19x1,20,21,22x4";
        for (int place = 0; place < 60; place++) {
            read(whole.substring(0, place) + "." + whole.substring(place + 1), place, NO_MASTER);
            read(whole.substring(0, place), place, NO_MASTER);
        }
        read(whole, 60, 22);
        read("?????", 0, NO_MASTER);
        read("5x16?", 4, NO_MASTER);
    }

    /** A text of 79 characters begins with these 60, so none of them is an error, and they tell no master. */
    private void howeverLong() {
        checks.sentence("a character is a syntax error if no master as a text, however long,"
                + " begins with the characters before it and this character");
        String whole = "10x1,11x1,12x1,13x1,14x1,15x1,16x1,17x1,18x1,19x1,20x1,21x1,22x1,23x1,24x1,25x1";
        read(whole.substring(0, 60), 60, NO_MASTER);
        read(whole.substring(0, 59), 59, NO_MASTER);
        read(whole.substring(0, 58), 58, NO_MASTER);
    }

    private void fullBufferThatIsAMaster() {
        checks.sentence("The buffer has at most 60 characters.");
        read("10x1,11x1,12x1,13x1,14x1,15x1,16x1,17x1,18x1,19x1,20,21,99x4", 60, 99);
        read("10x1,11x1,12x1,13x1,14x1,15x1,16x1,17x1,18x1,19x1,20,21,99x5", 59, NO_MASTER);
        read("10x1,11x1,12x1,13x1,14x1,15x1,16x1,17x1,18x1,19x1,20,21,99x3", 60, NO_MASTER);
    }

    private void diameterFiveToNinetyNine() {
        checks.sentence("a part is a diameter, 5 to 99 without leading zeros");
        read("4", 1, NO_MASTER);
        read("4x16", 1, NO_MASTER);
        read("4,", 1, NO_MASTER);
        read("5x16", 4, 5);
        read("9x16", 4, 9);
        read("10x16", 5, 10);
        read("40x16", 5, 40);
        read("49x16", 5, 49);
        read("99x16", 5, 99);
        read("100x16", 2, NO_MASTER);
        read("990", 2, NO_MASTER);
        read("0", 0, NO_MASTER);
        read("05x16", 0, NO_MASTER);
        read("00", 0, NO_MASTER);
        read("5x15,0", 5, NO_MASTER);
        read("5x15,09", 5, NO_MASTER);
        read("5x15,4", 6, NO_MASTER);
        read("5x15,4x1", 6, NO_MASTER);
        read("5x15,10", 7, 10);
        read("-5x16", 0, NO_MASTER);
        read("+5x16", 0, NO_MASTER);
    }

    private void timesOneToSixteen() {
        checks.sentence("and then perhaps \"x\" and 1 to 16 without leading zeros");
        read("7x", 2, NO_MASTER);
        read("7x0", 2, NO_MASTER);
        read("7x00", 2, NO_MASTER);
        read("7x01", 2, NO_MASTER);
        read("7x016", 2, NO_MASTER);
        read("7x1", 3, NO_MASTER);
        read("7x1,8x15", 8, 8);
        read("7x9,8x7", 7, 8);
        read("7x10,8x6", 8, 8);
        read("7x15,8x1", 8, 8);
        read("7x16", 4, 7);
        read("7x17", 3, NO_MASTER);
        read("7x18", 3, NO_MASTER);
        read("7x19", 3, NO_MASTER);
        read("7x20", 3, NO_MASTER);
        read("7x100", 4, NO_MASTER);
        read("7x160", 4, NO_MASTER);
        read("7x161", 4, NO_MASTER);
        read("7X16", 1, NO_MASTER);
    }

    private void sixteenTogether() {
        checks.sentence("one or more parts with \",\" between them, whose steps are 16 together");
        for (int first = 1; first <= 15; first++) {
            String begin = "8x" + first + ",9x";
            int left = 16 - first;
            read(begin + left, begin.length() + (left < 10 ? 1 : 2), 9);
            read("8x" + first + "," + (left == 1 ? "9" : "9x" + left), begin.length() + (left == 1 ? -1 : left < 10 ? 1 : 2),
                    9);
            read(begin + (left + 1), begin.length() + (left < 9 ? 0 : 1), NO_MASTER);
            read(begin + left + ",", begin.length() + (left < 10 ? 1 : 2), NO_MASTER);
            if (left > 1) {
                read(begin + (left - 1), begin.length() + (left <= 10 ? 1 : 2), NO_MASTER);
                read(begin + (left - 1) + ",7", begin.length() + (left <= 10 ? 1 : 2) + 2, 9);
                read(begin + (left - 1) + ",7x2", begin.length() + (left <= 10 ? 1 : 2) + 3, NO_MASTER);
            }
        }
        read("8x16,", 4, NO_MASTER);
        read(",8x16", 0, NO_MASTER);
        read("8x8,,9x8", 4, NO_MASTER);
        read("8x8,9x8,", 7, NO_MASTER);
        read("8x8;9x8", 3, NO_MASTER);
    }

    private void leftOutIsOne() {
        checks.sentence("so many steps with this diameter, 1 if it is left out");
        read("5,6,7,8,9,5,6,7,8,9,5,6,7,8,9,50", 32, 50);
        read("5,6,7,8,9,5,6,7,8,9,5,6,7,8,9", 29, NO_MASTER);
        read("5,6,7,8,9,5,6,7,8,9,5,6,7,8,9,5,", 31, NO_MASTER);
        read("5,6,7,8,9,5,6,7,8,9,5,6,7,8,9,5,6", 31, NO_MASTER);
        read("5,6x14,70", 9, 70);
        read("5,6x15", 6, 6);
        read("5,6x16", 5, NO_MASTER);
    }

    private void fromTheFirstStepOn() {
        checks.sentence("whose steps are 16 together, from the first one on");
        LatheCopies lathe = new LatheCopies();
        Checks.load(lathe, 2, "11,12x2,13x3,14x4,15x5,99");
        checks.due("master 2", Checks.master(lathe, 2), "11 12 12 13 13 13 14 14 14 14 15 15 15 15 15 99");
        checks.due("master 1", Checks.master(lathe, 1), Checks.times("30", 16));
        Checks.load(lathe, 2, "10x16");
        checks.due("master 2, loaded again", Checks.master(lathe, 2), Checks.times("10", 16));
    }

    private void greatestAtEachStep() {
        checks.sentence("Returns the greatest diameter of it.");
        for (int step = 0; step < 16; step++) {
            LatheCopies lathe = new LatheCopies();
            String text = step == 0 ? "7,6x15" : step == 15 ? "6x15,7" : "6x" + step + ",7,6x" + (15 - step);
            Checks.load(lathe, 0, "99x16");
            Checks.type(lathe, text);
            checks.due("loadMaster of " + text, lathe.loadMaster(1), 7);
            checks.due("the step", lathe.masterAt(1, step), 7);
        }
    }

    private void clearedOnlyIfLoaded() {
        checks.sentence("Makes a master of the text of the buffer, and clears the buffer.");
        LatheCopies lathe = new LatheCopies();
        Checks.type(lathe, "50x16");
        checks.passes("loadMaster", () -> lathe.loadMaster(0));
        checks.due("clearBuffer of a loaded one", lathe.clearBuffer(), 0);
        checks.due("savedStates", lathe.savedStates(), 1);
        Checks.type(lathe, "50x15");
        checks.due("loadMaster throws", Checks.thrownBy(() -> lathe.loadMaster(0)), ARGUMENT);
        checks.due("append to what stays", lathe.append(','), 6);
        lathe.append('6');
        checks.due("loadMaster of what was added to", lathe.loadMaster(0), 50);
        lathe.undo();
        checks.due("undo does not bring the text back", lathe.clearBuffer(), 0);
        checks.due("but the master", Checks.master(lathe, 0), Checks.times("50", 16));
    }

    private void codesAtTheEnds() {
        checks.sentence("Throws IllegalArgumentException if code is not 33 to 126");
        for (int code = 33; code <= 126; code++) {
            LatheCopies lathe = new LatheCopies();
            checks.due("append " + code, lathe.append(code), 1);
            checks.due("firstError of " + code, lathe.firstError(), code >= '1' && code <= '9' ? 1 : 0);
        }
        LatheCopies lathe = new LatheCopies();
        for (int code : new int[] {32, 127, 31, 128, 0, 10, -1, 256 + 53, 65536 + 53, Integer.MIN_VALUE + 53}) {
            checks.refused("append " + code, lathe, ARGUMENT, () -> lathe.append(code));
        }
    }
}
