import java.math.BigInteger;
import java.util.ArrayList;
import java.util.List;
import java.util.function.Consumer;

/** Promise 71: the digest against one that is put together of the answers of the other calls. */
public final class DigestTest {
    /** Computed outside of Java, of the list that the document tells. */
    private static final long NEW_LATHE = -51328660674104760L;

    private static final long USED_LATHE = 8735117761284031983L;

    private final Checks checks = new Checks();

    public static void main(String[] args) {
        DigestTest test = new DigestTest();
        test.ofANewLathe();
        test.ofAUsedLathe();
        test.alongARun();
        test.overTheEndsOfLong();
        test.ofBuffersOfEachLength();
        test.ofMeans();
        test.ofSlotsAndBuffer();
        test.checks.end();
    }

    private void ofANewLathe() {
        checks.due("digest of a new lathe", new LatheCopies().digest(), NEW_LATHE);
    }

    /** A state of many parts, whose digest was computed outside of Java, too. */
    private void ofAUsedLathe() {
        LatheCopies lathe = new LatheCopies();
        Checks.load(lathe, 1, "10x8,20x8");
        lathe.chooseMaster(1);
        lathe.addBlank(0, 20);
        lathe.addBlank(1, 33);
        lathe.addBlank(2, 120);
        lathe.mount(1);
        lathe.changeDepth(9);
        lathe.changeSpeed(5);
        lathe.changeOffset(2);
        lathe.fitFollower(0);
        lathe.pass();
        lathe.keep(1);
        lathe.append('5');
        lathe.append('x');
        checks.due("digest of a used lathe", lathe.digest(), USED_LATHE);
    }

    /** Each part of the run is made on a lathe of its own with those before it, as one is used for 512 calls at most. */
    private void alongARun() {
        List<Consumer<LatheCopies>> parts = parts();
        for (int last = 0; last < parts.size(); last++) {
            LatheCopies lathe = new LatheCopies();
            for (int part = 0; part <= last; part++) {
                parts.get(part).accept(lathe);
            }
            check("part " + last, lathe);
        }
    }

    private List<Consumer<LatheCopies>> parts() {
        return List.of(lathe -> {
            Checks.load(lathe, 0, "45,44,20x3,60x2,50x9");
            Checks.load(lathe, 2, "99,5x15");
        }, lathe -> {
            lathe.addBlank(2, 70);
            lathe.addBlank(0, 33);
            lathe.addBlank(1, 120);
        }, lathe -> lathe.mount(2), lathe -> {
            lathe.changeDepth(9);
            lathe.changeSpeed(5);
            lathe.passUpTo(5);
            checks.due("isJammed", lathe.isJammed(), true);
        }, lathe -> {
            lathe.sweep();
            lathe.sand(3);
            lathe.changeOffset(4);
            lathe.changeTolerance(20);
            lathe.fitFollower(3);
        }, lathe -> {
            lathe.passUpTo(1);
            lathe.sharpen();
            lathe.chooseMaster(2);
        }, lathe -> {
            lathe.takeOut();
            lathe.burn(1);
            lathe.mount(0);
            for (int pass = 0; pass < 5; pass++) {
                lathe.sweep();
                lathe.pass();
            }
            checks.due("sharpness", lathe.sharpness(), 0);
        }, LatheCopies::undo, lathe -> {
            lathe.addBlank(0, 20);
            lathe.addBlank(1, 44);
            lathe.addBlank(2, 99);
            checks.due("pieces", lathe.pieces(), 5);
        });
    }

    private void overTheEndsOfLong() {
        checks.sentence("the hash becomes 31 * hash + v, in long arithmetic with overflow");
        for (int pieces = 0; pieces <= 5; pieces++) {
            LatheCopies lathe = new LatheCopies();
            for (int piece = 0; piece < pieces; piece++) {
                lathe.addBlank(piece % 3, 30 + 20 * piece);
            }
            BigInteger exact = BigInteger.valueOf(4091);
            for (long value : values(lathe)) {
                exact = exact.multiply(BigInteger.valueOf(31)).add(BigInteger.valueOf(value));
            }
            checks.due("the hash passes the ends of long", exact.bitLength() > 63, true);
            checks.due("digest, its lowest 64 bits", lathe.digest(), exact.longValue());
        }
    }

    /** Empty and full ones: what is hashed of them has another length. */
    private void ofBuffersOfEachLength() {
        checks.sentence("the length of the buffer and each of its character codes");
        LatheCopies lathe = new LatheCopies();
        long begin = 0;
        for (int length = 0; length <= 60; length++) {
            long due = begin * 31 + length;
            for (int place = 0; place < length; place++) {
                due = due * 31 + 33 + place;
            }
            if (length == 0) {
                // The hash before the length, which is 0 here: it can be told, as 31 has an inverse among the longs.
                begin = lathe.digest() * BigInteger.valueOf(31).modInverse(BigInteger.ONE.shiftLeft(64)).longValue();
                due = lathe.digest();
            }
            checks.due("digest with " + length + " in the buffer", lathe.digest(), due);
            if (length < 60) {
                lathe.append(33 + length);
            }
        }
    }

    /** Sums of each power of two, where the bits of the mean have another exponent. */
    private void ofMeans() {
        for (int least : new int[] {5, 7, 8, 15, 16, 31, 32, 63, 64, 99}) {
            LatheCopies lathe = Checks.mounted(0, 120);
            lathe.fitFollower(0);
            Checks.load(lathe, 0, least + "x15," + (least == 99 ? 98 : least + 1));
            check("mean of a blank", lathe);
            for (int pass = 0; pass < 40; pass++) {
                lathe.sand(3);
            }
            check("mean near " + lathe.meanDiameter(0), lathe);
        }
    }

    private void ofSlotsAndBuffer() {
        LatheCopies lathe = new LatheCopies();
        lathe.keep(1);
        check("slot 1", lathe);
        Checks.type(lathe, "5x3~!");
        check("buffer", lathe, '5', 'x', '3', '~', '!');
        lathe.keep(0);
        check("both slots", lathe, '5', 'x', '3', '~', '!');
        lathe.sweep();
        check("saved", lathe, '5', 'x', '3', '~', '!');
    }

    private void check(String what, LatheCopies lathe, int... buffer) {
        checks.due("digest, " + what, lathe.digest(), hash(values(lathe, buffer)));
    }

    private static long hash(List<Long> values) {
        long hash = 4091;
        for (long value : values) {
            hash = 31 * hash + value;
        }
        return hash;
    }

    private static List<Long> values(LatheCopies lathe, int... buffer) {
        Values values = new Values();
        for (int master = 0; master < 3; master++) {
            for (int step = 0; step < 16; step++) {
                values.add(lathe.masterAt(master, step));
            }
        }
        values.add(lathe.chosenMaster(), lathe.radius(), lathe.wear(), lathe.offset(), lathe.sharpness());
        values.add(lathe.depth(), lathe.cutDepth(), lathe.speed(), lathe.tolerance(), lathe.chips());
        values.add(lathe.isJammed() ? 1 : 0);
        for (int step = 0; step < 16; step++) {
            values.add(lathe.readingByLooking(step), lathe.readingByQueue(step), lathe.targetAt(step));
        }
        values.add(lathe.lostGrooves(), lathe.pieces());
        for (int piece = 0; piece < lathe.pieces(); piece++) {
            values.add(lathe.woodOf(piece));
            for (int step = 0; step < 16; step++) {
                values.add(lathe.diameterAt(piece, step));
            }
            values.add(lathe.passesOn(piece), lathe.priceOf(piece), lathe.tooThick(piece), lathe.tooThin(piece));
            values.add(lathe.faultsOf(piece), lathe.mostLike(piece), lathe.chipsOf(piece));
            values.add(Double.doubleToLongBits(lathe.meanDiameter(piece)));
        }
        values.add(lathe.hasMounted() ? lathe.mounted() + 1 : 0);
        values.add(lathe.passes(), lathe.woodTaken(), lathe.sharpenings(), lathe.jams(), lathe.burnt());
        values.add(lathe.savedStates());
        if (lathe.hasMounted()) {
            values.add(lathe.isFinished() ? 1 : 0, lathe.passesUntilBlunt());
            if (lathe.sharpness() > 0) {
                values.add(lathe.passesBySteps(), lathe.passesByDivision());
            }
        }
        values.add(isFilled(lathe, 0) ? 1 : 0, isFilled(lathe, 1) ? 1 : 0, buffer.length);
        for (int code : buffer) {
            values.add(code);
        }
        return values.list;
    }

    /** Goes back and undoes it, which leaves all as it was while fewer than six states are saved. */
    private static boolean isFilled(LatheCopies lathe, int slot) {
        if (lathe.savedStates() == 6) {
            return false;
        }
        try {
            lathe.goBack(slot);
        } catch (IllegalStateException e) {
            return false;
        }
        lathe.undo();
        return true;
    }

    private static final class Values {
        private final List<Long> list = new ArrayList<>();

        void add(long... values) {
            for (long value : values) {
                list.add(value);
            }
        }
    }
}
