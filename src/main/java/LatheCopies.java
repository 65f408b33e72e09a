/**
 * A copying lathe: a follower traces a master, and a cutter brings mounted pieces to its shape pass by pass.
 * The face looks at arguments and states, throws what is due, and only then saves the state and changes it.
 */
public final class LatheCopies {
    private static final int MASTERS = 3;
    private static final int STEPS = 16;
    private static final int WOODS = 3;
    private static final int SLOTS = 2;
    private static final int NONE = -1;
    private static final int MOST_PIECES = 5;
    private static final int MOST_SAVED = 6;
    private static final int MOST_CODES = 60;
    private static final int MOST_CHIPS = 200;
    private static final int MOST_PASSES = 30;
    private static final int MOST_WEAR = 30;
    private static final int MOST_RADIUS = 3;
    private static final int MOST_OFFSET = 5;
    private static final int MOST_DEPTH = 9;
    private static final int MOST_SPEED = 5;
    private static final int MOST_TOLERANCE = 20;
    private static final int MOST_SANDED = 3;
    private static final int LEAST_CODE = 33;
    private static final int GREATEST_CODE = 126;
    private static final int LEAST_MASTER = 5;
    private static final int GREATEST_MASTER = 99;
    private static final int FIRST_MASTER = 30;
    private static final int LEAST_BLANK = 20;
    private static final int GREATEST_BLANK = 120;
    private static final int LEAST_TARGET = 1;
    private static final int SHARP = 100;
    private static final int STILL_SHARP = 50;
    private static final int PASSES_A_WEAR = 4;
    /** Far above the passes that any piece can need, as each takes off at least 1. */
    private static final int PASSES_COUNTED = 1000;
    private static final long FIRST_HASH = 4091L;
    private static final int BITS_OF_FRACTION = 52;
    private static final int BIAS_OF_EXPONENT = 1023;
    private static final int POWER_OF_STEPS = 4;
    private static final int GREATEST_POWER = 30;

    private final Lathe lathe = new Lathe();
    private final History history = new History();
    private final MasterText text = new MasterText();
    /** Used again by each call that needs a row, as rows made by calls would fill the room. */
    private final Row waiting = new Row(STEPS);
    private final Row left = new Row(STEPS);

    public LatheCopies() {
    }

    // ---- masters

    public int carve(int master, int step, int diameter) throws IndexOutOfBoundsException, IllegalArgumentException {
        checkMaster(master);
        checkStep(step);
        checkRange(diameter, LEAST_MASTER, GREATEST_MASTER);
        history.save(lathe);
        int before = lathe.masters.at(master, step);
        lathe.masters.put(master, step, diameter);
        return before;
    }

    public int copyMaster(int from, int to) throws IndexOutOfBoundsException {
        checkMaster(from);
        checkMaster(to);
        history.save(lathe);
        return lathe.masters.makeAlike(from, to);
    }

    public int mirrorMaster(int master) throws IndexOutOfBoundsException {
        checkMaster(master);
        history.save(lathe);
        return lathe.masters.turnRound(master);
    }

    public int chooseMaster(int master) throws IndexOutOfBoundsException {
        checkMaster(master);
        history.save(lathe);
        int before = lathe.masters.chosen;
        lathe.masters.chosen = master;
        return before;
    }

    // ---- follower, cutter

    public int fitFollower(int radius) throws IllegalArgumentException {
        checkRange(radius, 0, MOST_RADIUS);
        history.save(lathe);
        int before = lathe.follower.wear;
        lathe.follower.renew(radius);
        return before;
    }

    public int changeOffset(int offset) throws IllegalArgumentException {
        checkRange(offset, 0, MOST_OFFSET);
        history.save(lathe);
        int before = lathe.follower.offset;
        lathe.follower.offset = offset;
        return before;
    }

    public int sharpen() {
        history.save(lathe);
        int before = lathe.cutter.sharpness;
        lathe.cutter.sharpness = SHARP;
        lathe.accounts.sharpenings++;
        return before;
    }

    public int changeDepth(int depth) throws IllegalArgumentException {
        checkRange(depth, 1, MOST_DEPTH);
        history.save(lathe);
        int before = lathe.cutter.depth;
        lathe.cutter.depth = depth;
        return before;
    }

    public int changeSpeed(int speed) throws IllegalArgumentException {
        checkRange(speed, 1, MOST_SPEED);
        history.save(lathe);
        int before = lathe.cutter.speed;
        lathe.cutter.speed = speed;
        return before;
    }

    public int changeTolerance(int tolerance) throws IllegalArgumentException {
        checkRange(tolerance, 0, MOST_TOLERANCE);
        history.save(lathe);
        int before = lathe.tolerance;
        lathe.tolerance = tolerance;
        return before;
    }

    public int sweep() {
        history.save(lathe);
        int before = lathe.chips;
        lathe.chips = 0;
        lathe.jammed = false;
        return before;
    }

    // ---- pieces

    public int addBlank(int wood, int diameter)
            throws IndexOutOfBoundsException, IllegalArgumentException, IllegalStateException {
        checkIndex(wood, WOODS);
        checkRange(diameter, LEAST_BLANK, GREATEST_BLANK);
        checkState(lathe.rack.count < MOST_PIECES);
        history.save(lathe);
        return lathe.rack.add(wood, diameter);
    }

    public int burn(int piece) throws IndexOutOfBoundsException, IllegalStateException {
        checkPiece(piece);
        checkState(piece != lathe.rack.mounted);
        history.save(lathe);
        lathe.rack.drop(piece);
        lathe.accounts.burnt++;
        return lathe.rack.count;
    }

    public void mount(int piece) throws IndexOutOfBoundsException, IllegalStateException {
        checkPiece(piece);
        checkState(!lathe.rack.isTurning());
        history.save(lathe);
        lathe.rack.mounted = piece;
    }

    public int takeOut() throws IllegalStateException {
        checkMounted();
        history.save(lathe);
        int piece = lathe.rack.mounted;
        lathe.rack.mounted = NONE;
        return piece;
    }

    // ---- cutting

    public int pass() throws IllegalStateException {
        checkReady();
        history.save(lathe);
        return lathe.runPass();
    }

    public int passUpTo(int passes) throws IllegalArgumentException, IllegalStateException {
        checkRange(passes, 1, MOST_PASSES);
        checkReady();
        history.save(lathe);
        int done = 0;
        while (done < passes && lathe.canRun() && lathe.mostAbove(lathe.rack.mounted) > 0) {
            lathe.runPass();
            done++;
        }
        return done;
    }

    public int sand(int amount) throws IllegalArgumentException, IllegalStateException {
        checkRange(amount, 1, MOST_SANDED);
        checkMounted();
        history.save(lathe);
        return lathe.rub(amount);
    }

    // ---- texts

    public int append(int code) throws IllegalArgumentException, IllegalStateException {
        checkRange(code, LEAST_CODE, GREATEST_CODE);
        checkState(text.length < MOST_CODES);
        return text.add(code);
    }

    public int clearBuffer() {
        return text.empty();
    }

    public int firstError() {
        return text.readable();
    }

    public int loadMaster(int master) throws IndexOutOfBoundsException, IllegalArgumentException {
        checkMaster(master);
        checkArgument(text.tellsMaster());
        history.save(lathe);
        for (int step = 0; step < STEPS; step++) {
            lathe.masters.put(master, step, text.told.at(step));
        }
        text.empty();
        return lathe.masters.greatestOf(master);
    }

    // ---- snapshots, undo

    public void keep(int slot) throws IllegalArgumentException {
        checkArgument(isIndex(slot, SLOTS));
        history.fillSlot(slot, lathe);
    }

    public void goBack(int slot) throws IllegalArgumentException, IllegalStateException {
        checkArgument(isIndex(slot, SLOTS));
        checkState(history.isFilled(slot));
        history.save(lathe);
        history.restoreSlot(slot, lathe);
    }

    public void undo() throws IllegalStateException {
        checkState(history.count > 0);
        history.restoreLatest(lathe);
    }

    public int savedStates() {
        return history.count;
    }

    // ---- masters, follower, cutter as they are

    public int masterAt(int master, int step) throws IndexOutOfBoundsException {
        checkMaster(master);
        checkStep(step);
        return lathe.masters.at(master, step);
    }

    public int chosenMaster() {
        return lathe.masters.chosen;
    }

    public int radius() {
        return lathe.follower.radius;
    }

    public int wear() {
        return lathe.follower.wear;
    }

    public int offset() {
        return lathe.follower.offset;
    }

    public int sharpness() {
        return lathe.cutter.sharpness;
    }

    public int depth() {
        return lathe.cutter.depth;
    }

    public int cutDepth() {
        return lathe.cutter.reach();
    }

    public int speed() {
        return lathe.cutter.speed;
    }

    public int tolerance() {
        return lathe.tolerance;
    }

    public int chips() {
        return lathe.chips;
    }

    public int roomForChips() {
        return MOST_CHIPS - lathe.chips;
    }

    public boolean isJammed() {
        return lathe.jammed;
    }

    // ---- pieces as they are

    public int pieces() {
        return lathe.rack.count;
    }

    public int woodOf(int piece) throws IndexOutOfBoundsException {
        checkPiece(piece);
        return lathe.rack.woods.at(piece);
    }

    public int diameterAt(int piece, int step) throws IndexOutOfBoundsException {
        checkPiece(piece);
        checkStep(step);
        return lathe.rack.at(piece, step);
    }

    public int passesOn(int piece) throws IndexOutOfBoundsException {
        checkPiece(piece);
        return lathe.rack.passesDone.at(piece);
    }

    public boolean hasMounted() {
        return lathe.rack.isTurning();
    }

    public int mounted() throws IllegalStateException {
        checkMounted();
        return lathe.rack.mounted;
    }

    public int priceOf(int piece) throws IndexOutOfBoundsException {
        checkPiece(piece);
        return lathe.rack.price(piece);
    }

    // ---- accounts

    public int passes() {
        return lathe.accounts.passes;
    }

    public int woodTaken() {
        return lathe.accounts.woodTaken;
    }

    public int sharpenings() {
        return lathe.accounts.sharpenings;
    }

    public int jams() {
        return lathe.accounts.jams;
    }

    public int burnt() {
        return lathe.accounts.burnt;
    }

    // ---- readings

    public int readingByLooking(int step) throws IndexOutOfBoundsException {
        checkStep(step);
        return lathe.reading(step);
    }

    public int readingByQueue(int step) throws IndexOutOfBoundsException {
        checkStep(step);
        return firstWaiting(step);
    }

    public int targetAt(int step) throws IndexOutOfBoundsException {
        checkStep(step);
        return lathe.target(step);
    }

    public int lostGrooves() {
        int lost = 0;
        for (int step = 0; step < STEPS; step++) {
            if (lathe.reading(step) > lathe.masters.chosenAt(step)) {
                lost++;
            }
        }
        return lost;
    }

    public int slimmestMaster() {
        int slimmest = 0;
        for (int master = 1; master < MASTERS; master++) {
            if (lathe.masters.sumOf(master) < lathe.masters.sumOf(slimmest)) {
                slimmest = master;
            }
        }
        return slimmest;
    }

    // ---- gauging

    public int tooThick(int piece) throws IndexOutOfBoundsException {
        checkPiece(piece);
        int worst = 0;
        for (int step = 0; step < STEPS; step++) {
            worst = Math.max(worst, lathe.difference(piece, lathe.masters.chosen, step));
        }
        return worst;
    }

    public int tooThin(int piece) throws IndexOutOfBoundsException {
        checkPiece(piece);
        int worst = 0;
        for (int step = 0; step < STEPS; step++) {
            worst = Math.max(worst, -lathe.difference(piece, lathe.masters.chosen, step));
        }
        return worst;
    }

    public int faultsOf(int piece) throws IndexOutOfBoundsException {
        checkPiece(piece);
        return lathe.faults(piece);
    }

    public boolean isGood(int piece) throws IndexOutOfBoundsException {
        checkPiece(piece);
        return lathe.faults(piece) == 0;
    }

    public int mostLike(int piece) throws IndexOutOfBoundsException {
        checkPiece(piece);
        int most = 0;
        for (int master = 1; master < MASTERS; master++) {
            if (lathe.differences(piece, master) < lathe.differences(piece, most)) {
                most = master;
            }
        }
        return most;
    }

    public int bestCopy() throws IllegalStateException {
        checkState(lathe.rack.count > 0);
        int best = 0;
        for (int piece = 1; piece < lathe.rack.count; piece++) {
            if (lathe.isBetter(piece, best)) {
                best = piece;
            }
        }
        return best;
    }

    // ---- what would be

    public boolean isFinished() throws IllegalStateException {
        checkMounted();
        return lathe.mostAbove(lathe.rack.mounted) == 0;
    }

    public int ifPassed() throws IllegalStateException {
        checkReady();
        return lathe.wouldCut();
    }

    public int passesBySteps() throws IllegalStateException {
        checkMounted();
        checkState(lathe.cutter.isSharp());
        return countPasses();
    }

    public int passesByDivision() throws IllegalStateException {
        checkMounted();
        checkState(lathe.cutter.isSharp());
        return dividedUp(lathe.mostAbove(lathe.rack.mounted), lathe.cutter.reach());
    }

    public int passesUntilBlunt() throws IllegalStateException {
        checkMounted();
        return dividedUp(lathe.cutter.sharpness, lathe.blunting());
    }

    public int chipsOf(int piece) throws IndexOutOfBoundsException {
        checkPiece(piece);
        return lathe.allAbove(piece);
    }

    public double meanDiameter(int piece) throws IndexOutOfBoundsException {
        checkPiece(piece);
        return (double) lathe.rack.sumOf(piece) / STEPS;
    }

    public long digest() {
        long hash = hashOfMasters(FIRST_HASH);
        hash = hashOfSettings(hash);
        hash = hashOfReadings(hash);
        hash = mixed(hash, lathe.rack.count);
        for (int piece = 0; piece < lathe.rack.count; piece++) {
            hash = hashOfPiece(hash, piece);
        }
        hash = mixed(hash, lathe.rack.mounted + 1);
        hash = hashOfAccounts(hash);
        if (lathe.rack.isTurning()) {
            hash = hashOfProspects(hash);
        }
        for (int slot = 0; slot < SLOTS; slot++) {
            hash = mixed(hash, history.isFilled(slot) ? 1 : 0);
        }
        hash = mixed(hash, text.length);
        for (int place = 0; place < text.length; place++) {
            hash = mixed(hash, text.codes.at(place));
        }
        return hash;
    }

    // ---- parts of the digest

    private static long mixed(long hash, long value) {
        return 31L * hash + value;
    }

    private long hashOfMasters(long start) {
        long hash = start;
        for (int master = 0; master < MASTERS; master++) {
            for (int step = 0; step < STEPS; step++) {
                hash = mixed(hash, lathe.masters.at(master, step));
            }
        }
        return hash;
    }

    private long hashOfSettings(long start) {
        long hash = mixed(start, lathe.masters.chosen);
        hash = mixed(hash, lathe.follower.radius);
        hash = mixed(hash, lathe.follower.wear);
        hash = mixed(hash, lathe.follower.offset);
        hash = mixed(hash, lathe.cutter.sharpness);
        hash = mixed(hash, lathe.cutter.depth);
        hash = mixed(hash, lathe.cutter.reach());
        hash = mixed(hash, lathe.cutter.speed);
        hash = mixed(hash, lathe.tolerance);
        hash = mixed(hash, lathe.chips);
        return mixed(hash, lathe.jammed ? 1 : 0);
    }

    private long hashOfReadings(long start) {
        long hash = start;
        for (int step = 0; step < STEPS; step++) {
            hash = mixed(hash, lathe.reading(step));
            hash = mixed(hash, firstWaiting(step));
            hash = mixed(hash, lathe.target(step));
        }
        return mixed(hash, lostGrooves());
    }

    private long hashOfPiece(long start, int piece) {
        long hash = mixed(start, lathe.rack.woods.at(piece));
        for (int step = 0; step < STEPS; step++) {
            hash = mixed(hash, lathe.rack.at(piece, step));
        }
        hash = mixed(hash, lathe.rack.passesDone.at(piece));
        hash = mixed(hash, lathe.rack.price(piece));
        hash = mixed(hash, tooThick(piece));
        hash = mixed(hash, tooThin(piece));
        hash = mixed(hash, lathe.faults(piece));
        hash = mixed(hash, mostLike(piece));
        hash = mixed(hash, lathe.allAbove(piece));
        return mixed(hash, bitsOfMean(lathe.rack.sumOf(piece)));
    }

    private long hashOfAccounts(long start) {
        long hash = mixed(start, lathe.accounts.passes);
        hash = mixed(hash, lathe.accounts.woodTaken);
        hash = mixed(hash, lathe.accounts.sharpenings);
        hash = mixed(hash, lathe.accounts.jams);
        hash = mixed(hash, lathe.accounts.burnt);
        return mixed(hash, history.count);
    }

    private long hashOfProspects(long start) {
        int most = lathe.mostAbove(lathe.rack.mounted);
        long hash = mixed(start, most == 0 ? 1 : 0);
        hash = mixed(hash, dividedUp(lathe.cutter.sharpness, lathe.blunting()));
        if (lathe.cutter.isSharp()) {
            hash = mixed(hash, countPasses());
            hash = mixed(hash, dividedUp(most, lathe.cutter.reach()));
        }
        return hash;
    }

    /** The bits of sum / 16 as a double, put together by hand, as the library's call for them is not to be used. */
    private static long bitsOfMean(int sum) {
        if (sum <= 0) {
            return 0L;
        }
        int power = 0;
        while (power < GREATEST_POWER && (sum >> (power + 1)) > 0) {
            power++;
        }
        long exponent = BIAS_OF_EXPONENT + power - POWER_OF_STEPS;
        long fraction = (sum - (1L << power)) << (BITS_OF_FRACTION - power);
        return (exponent << BITS_OF_FRACTION) + fraction;
    }

    // ---- what the rows are used for

    /** Goes along the master with the middle of the tip, before its first step too, as the row fills up there. */
    private int firstWaiting(int step) {
        int radius = lathe.follower.radius;
        int first = 0;
        int end = 0;
        for (int middle = -radius; middle <= step; middle++) {
            int coming = middle + radius;
            if (coming < STEPS) {
                while (end > first && isNotThicker(waiting.at(end - 1), coming)) {
                    end--;
                }
                waiting.put(end, coming);
                end++;
            }
            while (first < end && waiting.at(first) < middle - radius) {
                first++;
            }
        }
        return lathe.masters.chosenAt(waiting.at(first));
    }

    private boolean isNotThicker(int step, int thanStep) {
        return lathe.masters.chosenAt(step) <= lathe.masters.chosenAt(thanStep);
    }

    private int countPasses() {
        for (int step = 0; step < STEPS; step++) {
            left.put(step, lathe.above(lathe.rack.mounted, step));
        }
        int done = 0;
        while (done < PASSES_COUNTED && left.greatest() > 0) {
            for (int step = 0; step < STEPS; step++) {
                left.put(step, Math.max(0, left.at(step) - lathe.cutter.reach()));
            }
            done++;
        }
        return done;
    }

    private static int dividedUp(int amount, int divisor) {
        return divisor <= 0 ? 0 : (amount + divisor - 1) / divisor;
    }

    // ---- what is looked at before a call

    private static boolean isIndex(int index, int length) {
        return index >= 0 && index < length;
    }

    private static void checkIndex(int index, int length) {
        if (!isIndex(index, length)) {
            throw new IndexOutOfBoundsException();
        }
    }

    private static void checkArgument(boolean right) {
        if (!right) {
            throw new IllegalArgumentException();
        }
    }

    private static void checkState(boolean right) {
        if (!right) {
            throw new IllegalStateException();
        }
    }

    private static void checkRange(int value, int least, int greatest) {
        checkArgument(value >= least && value <= greatest);
    }

    private static void checkMaster(int master) {
        checkIndex(master, MASTERS);
    }

    private static void checkStep(int step) {
        checkIndex(step, STEPS);
    }

    private void checkPiece(int piece) {
        checkIndex(piece, lathe.rack.count);
    }

    private void checkMounted() {
        checkState(lathe.rack.isTurning());
    }

    private void checkReady() {
        checkMounted();
        checkState(lathe.canRun());
    }

    /** A row of numbers that no index can leave: outside it there are zeros, and nothing is put there. */
    private static final class Row {
        private final int[] numbers;

        Row(int length) {
            numbers = new int[Math.max(0, length)];
        }

        int at(int place) {
            return place >= 0 && place < numbers.length ? numbers[place] : 0;
        }

        void put(int place, int number) {
            if (place >= 0 && place < numbers.length) {
                numbers[place] = number;
            }
        }

        void add(int place, int number) {
            put(place, at(place) + number);
        }

        int greatest() {
            int greatest = 0;
            for (int place = 0; place < numbers.length; place++) {
                greatest = Math.max(greatest, numbers[place]);
            }
            return greatest;
        }

        void takeOver(Row other) {
            for (int place = 0; place < numbers.length; place++) {
                numbers[place] = other.at(place);
            }
        }
    }

    /**
     * The masters, one behind the other in one array, and which of them is under the follower.
     * An array and no Row, so that calls go less deep: the deepest ones end here.
     */
    private static final class Masters {
        private final int[] diameters = new int[MASTERS * STEPS];
        private int chosen;

        Masters() {
            for (int place = 0; place < diameters.length; place++) {
                diameters[place] = FIRST_MASTER;
            }
        }

        int at(int master, int step) {
            int place = master * STEPS + step;
            return place >= 0 && place < diameters.length ? diameters[place] : 0;
        }

        void put(int master, int step, int diameter) {
            int place = master * STEPS + step;
            if (place >= 0 && place < diameters.length) {
                diameters[place] = diameter;
            }
        }

        int chosenAt(int step) {
            return at(chosen, step);
        }

        int makeAlike(int from, int to) {
            int changed = 0;
            for (int step = 0; step < STEPS; step++) {
                if (at(from, step) != at(to, step)) {
                    changed++;
                }
                put(to, step, at(from, step));
            }
            return changed;
        }

        int turnRound(int master) {
            int changed = 0;
            for (int step = 0; step < STEPS / 2; step++) {
                int mirrored = STEPS - 1 - step;
                int diameter = at(master, step);
                if (diameter != at(master, mirrored)) {
                    changed += 2;
                }
                put(master, step, at(master, mirrored));
                put(master, mirrored, diameter);
            }
            return changed;
        }

        int sumOf(int master) {
            int sum = 0;
            for (int step = 0; step < STEPS; step++) {
                sum += at(master, step);
            }
            return sum;
        }

        int greatestOf(int master) {
            int greatest = 0;
            for (int step = 0; step < STEPS; step++) {
                greatest = Math.max(greatest, at(master, step));
            }
            return greatest;
        }

        void takeOver(Masters other) {
            for (int master = 0; master < MASTERS; master++) {
                for (int step = 0; step < STEPS; step++) {
                    put(master, step, other.at(master, step));
                }
            }
            chosen = other.chosen;
        }
    }

    private static final class Follower {
        private int radius = 1;
        private int wear;
        private int offset;
        private int passesSinceNew;

        void renew(int newRadius) {
            radius = newRadius;
            wear = 0;
            passesSinceNew = 0;
        }

        void wearByPass() {
            passesSinceNew++;
            if (passesSinceNew % PASSES_A_WEAR == 0) {
                wear = Math.min(MOST_WEAR, wear + 1);
            }
        }

        void takeOver(Follower other) {
            radius = other.radius;
            wear = other.wear;
            offset = other.offset;
            passesSinceNew = other.passesSinceNew;
        }
    }

    private static final class Cutter {
        private int sharpness = SHARP;
        private int depth = 3;
        private int speed = 2;

        boolean isSharp() {
            return sharpness > 0;
        }

        int reach() {
            if (!isSharp()) {
                return 0;
            }
            return sharpness >= STILL_SHARP ? depth : (depth + 1) / 2;
        }

        void becomeBlunter(int amount) {
            sharpness = Math.max(0, sharpness - amount);
        }

        void takeOver(Cutter other) {
            sharpness = other.sharpness;
            depth = other.depth;
            speed = other.speed;
        }
    }

    /** The pieces: their diameters stand one piece behind the other in one row. */
    private static final class Rack {
        private static final int[] HARDNESSES = {1, 2, 4};
        private static final int[] PRICES = {2, 5, 9};

        private final Row diameters = new Row(MOST_PIECES * STEPS);
        private final Row woods = new Row(MOST_PIECES);
        private final Row passesDone = new Row(MOST_PIECES);
        private int count;
        private int mounted = NONE;

        boolean isTurning() {
            return mounted != NONE;
        }

        int at(int piece, int step) {
            return diameters.at(piece * STEPS + step);
        }

        void thin(int piece, int step, int amount) {
            diameters.add(piece * STEPS + step, -amount);
        }

        int sumOf(int piece) {
            int sum = 0;
            for (int step = 0; step < STEPS; step++) {
                sum += at(piece, step);
            }
            return sum;
        }

        int price(int piece) {
            int wood = woods.at(piece);
            int each = wood >= 0 && wood < PRICES.length ? PRICES[wood] : 0;
            return sumOf(piece) / STEPS * each;
        }

        int hardness(int piece) {
            int wood = woods.at(piece);
            return wood >= 0 && wood < HARDNESSES.length ? HARDNESSES[wood] : 0;
        }

        int add(int wood, int diameter) {
            int piece = count;
            woods.put(piece, wood);
            passesDone.put(piece, 0);
            for (int step = 0; step < STEPS; step++) {
                diameters.put(piece * STEPS + step, diameter);
            }
            count++;
            return piece;
        }

        void drop(int piece) {
            for (int later = piece + 1; later < count; later++) {
                moveUp(later);
            }
            count--;
            if (mounted > piece) {
                mounted--;
            }
        }

        private void moveUp(int piece) {
            woods.put(piece - 1, woods.at(piece));
            passesDone.put(piece - 1, passesDone.at(piece));
            for (int step = 0; step < STEPS; step++) {
                diameters.put((piece - 1) * STEPS + step, at(piece, step));
            }
        }

        void takeOver(Rack other) {
            diameters.takeOver(other.diameters);
            woods.takeOver(other.woods);
            passesDone.takeOver(other.passesDone);
            count = other.count;
            mounted = other.mounted;
        }
    }

    private static final class Accounts {
        private int passes;
        private int woodTaken;
        private int sharpenings;
        private int jams;
        private int burnt;

        void takeOver(Accounts other) {
            passes = other.passes;
            woodTaken = other.woodTaken;
            sharpenings = other.sharpenings;
            jams = other.jams;
            burnt = other.burnt;
        }
    }

    /** All that a snapshot holds. */
    private static final class Lathe {
        private final Masters masters = new Masters();
        private final Follower follower = new Follower();
        private final Cutter cutter = new Cutter();
        private final Rack rack = new Rack();
        private final Accounts accounts = new Accounts();
        private int tolerance = 2;
        private int chips;
        private boolean jammed;

        int reading(int step) {
            int greatest = 0;
            int last = Math.min(STEPS - 1, step + follower.radius);
            for (int covered = Math.max(0, step - follower.radius); covered <= last; covered++) {
                greatest = Math.max(greatest, masters.at(masters.chosen, covered));
            }
            return greatest;
        }

        int target(int step) {
            return Math.max(LEAST_TARGET, reading(step) - follower.wear + follower.offset);
        }

        int above(int piece, int step) {
            return Math.max(0, rack.at(piece, step) - target(step));
        }

        int mostAbove(int piece) {
            int most = 0;
            for (int step = 0; step < STEPS; step++) {
                most = Math.max(most, above(piece, step));
            }
            return most;
        }

        int allAbove(int piece) {
            int all = 0;
            for (int step = 0; step < STEPS; step++) {
                all += above(piece, step);
            }
            return all;
        }

        boolean canRun() {
            return !jammed && cutter.isSharp();
        }

        int blunting() {
            return rack.hardness(rack.mounted) * cutter.speed;
        }

        int runPass() {
            int cut = cutSteps();
            accounts.passes++;
            accounts.woodTaken += cut;
            rack.passesDone.add(rack.mounted, 1);
            cutter.becomeBlunter(blunting());
            follower.wearByPass();
            return cut;
        }

        private int cutSteps() {
            int cut = 0;
            for (int step = 0; step < STEPS && !jammed; step++) {
                int part = Math.min(cutter.reach(), above(rack.mounted, step));
                if (part > MOST_CHIPS - chips) {
                    jammed = true;
                    accounts.jams++;
                } else {
                    rack.thin(rack.mounted, step, part);
                    chips += part;
                    cut += part;
                }
            }
            return cut;
        }

        int wouldCut() {
            int cut = 0;
            for (int step = 0; step < STEPS; step++) {
                int part = Math.min(cutter.reach(), above(rack.mounted, step));
                if (part > MOST_CHIPS - chips - cut) {
                    return cut;
                }
                cut += part;
            }
            return cut;
        }

        int rub(int amount) {
            int taken = 0;
            for (int step = 0; step < STEPS; step++) {
                int part = Math.min(amount, above(rack.mounted, step));
                rack.thin(rack.mounted, step, part);
                taken += part;
            }
            accounts.woodTaken += taken;
            return taken;
        }

        int difference(int piece, int master, int step) {
            return rack.at(piece, step) - masters.at(master, step);
        }

        int differences(int piece, int master) {
            int sum = 0;
            for (int step = 0; step < STEPS; step++) {
                sum += Math.abs(difference(piece, master, step));
            }
            return sum;
        }

        int faults(int piece) {
            int faults = 0;
            for (int step = 0; step < STEPS; step++) {
                if (Math.abs(difference(piece, masters.chosen, step)) > tolerance) {
                    faults++;
                }
            }
            return faults;
        }

        boolean isBetter(int piece, int thanPiece) {
            int faults = faults(piece);
            int otherFaults = faults(thanPiece);
            if (faults != otherFaults) {
                return faults < otherFaults;
            }
            return differences(piece, masters.chosen) < differences(thanPiece, masters.chosen);
        }

        void takeOver(Lathe other) {
            masters.takeOver(other.masters);
            follower.takeOver(other.follower);
            cutter.takeOver(other.cutter);
            rack.takeOver(other.rack);
            accounts.takeOver(other.accounts);
            tolerance = other.tolerance;
            chips = other.chips;
            jammed = other.jammed;
        }
    }

    /** The saved states, in a ring, and the slots; a lathe that was made for a place is used there again. */
    private static final class History {
        private final Lathe[] saved = new Lathe[MOST_SAVED];
        private final Lathe[] slots = new Lathe[SLOTS];
        private int oldest;
        private int count;

        void save(Lathe now) {
            if (count < MOST_SAVED) {
                count++;
            } else {
                oldest = (oldest + 1) % MOST_SAVED;
            }
            store(saved, latest(), now);
        }

        void restoreLatest(Lathe now) {
            if (count > 0) {
                fetch(saved, latest(), now);
                count--;
            }
        }

        private int latest() {
            return (oldest + count - 1) % MOST_SAVED;
        }

        boolean isFilled(int slot) {
            return slot >= 0 && slot < slots.length && slots[slot] != null;
        }

        void fillSlot(int slot, Lathe now) {
            store(slots, slot, now);
        }

        void restoreSlot(int slot, Lathe now) {
            fetch(slots, slot, now);
        }

        private static void store(Lathe[] places, int place, Lathe now) {
            if (place < 0 || place >= places.length) {
                return;
            }
            Lathe kept = places[place];
            if (kept == null) {
                kept = new Lathe();
                places[place] = kept;
            }
            kept.takeOver(now);
        }

        private static void fetch(Lathe[] places, int place, Lathe now) {
            Lathe kept = place >= 0 && place < places.length ? places[place] : null;
            if (kept != null) {
                now.takeOver(kept);
            }
        }
    }

    /** The buffer, and its reading as a master: character by character, as long as a master can begin so. */
    private static final class MasterText {
        private static final int IN_DIAMETER = 0;
        private static final int TIMES_BEGIN = 1;
        private static final int IN_TIMES = 2;

        private final Row codes = new Row(MOST_CODES);
        private final Row told = new Row(STEPS);
        private int length;
        private int place;
        private int diameter;
        private int times;
        private int stepsTold;

        int add(int code) {
            codes.put(length, code);
            length++;
            return length;
        }

        int empty() {
            int before = length;
            length = 0;
            return before;
        }

        /** How many characters can be read before the first one that is a syntax error. */
        int readable() {
            stepsTold = 0;
            beginPart();
            int read = 0;
            while (read < length && takes(codes.at(read))) {
                read++;
            }
            return read;
        }

        boolean tellsMaster() {
            if (readable() < length || !canPartEnd()) {
                return false;
            }
            tellPart();
            return stepsTold == STEPS;
        }

        /** A diameter of 0 tells that none of its digits has come yet. */
        private void beginPart() {
            place = IN_DIAMETER;
            diameter = 0;
            times = 1;
        }

        private boolean takes(int code) {
            if (code >= '0' && code <= '9') {
                return takesDigit(code - '0');
            }
            if (code == 'x') {
                return takesTimes();
            }
            return code == ',' && takesComma();
        }

        private boolean takesDigit(int digit) {
            if (place == IN_DIAMETER) {
                return takesDiameter(diameter * 10 + digit);
            }
            return takesNumber(place == IN_TIMES ? times * 10 + digit : digit);
        }

        private boolean takesDiameter(int number) {
            if (number < 1 || number > GREATEST_MASTER) {
                return false;
            }
            diameter = number;
            return true;
        }

        private boolean takesNumber(int number) {
            if (number < 1 || stepsTold + number > STEPS) {
                return false;
            }
            times = number;
            place = IN_TIMES;
            return true;
        }

        private boolean takesTimes() {
            if (place != IN_DIAMETER || diameter < LEAST_MASTER) {
                return false;
            }
            place = TIMES_BEGIN;
            return true;
        }

        private boolean takesComma() {
            if (!canPartEnd() || stepsTold + times >= STEPS) {
                return false;
            }
            tellPart();
            beginPart();
            return true;
        }

        private boolean canPartEnd() {
            return place == IN_TIMES || place == IN_DIAMETER && diameter >= LEAST_MASTER;
        }

        private void tellPart() {
            for (int step = 0; step < times; step++) {
                told.put(stepsTold + step, diameter);
            }
            stepsTold += times;
        }
    }
}
