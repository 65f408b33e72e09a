import java.util.ArrayList;
import java.util.Arrays;
import java.util.Collections;
import java.util.LinkedList;
import java.util.List;
import java.util.regex.Matcher;
import java.util.regex.Pattern;
import java.util.stream.IntStream;

/**
 * The document once more, written apart from the class and with the whole Java library, as slowly and plainly as
 * its words are: what random runs of the class are compared with.
 */
final class PlainLathe {
    private static final Pattern PART = Pattern.compile("([5-9]|[1-9][0-9])(?:x([1-9]|1[0-6]))?");
    private static final Pattern PART_BEGUN = Pattern.compile("|[1-9]|[1-9][0-9]|(?:[5-9]|[1-9][0-9])x");
    private static final int[] HARDNESS = {1, 2, 4};
    private static final int[] PRICE = {2, 5, 9};

    private static final class Piece {
        int wood;
        int passes;
        int[] at = new int[16];
        boolean mounted;

        Piece copy() {
            Piece copy = new Piece();
            copy.wood = wood;
            copy.passes = passes;
            copy.at = at.clone();
            copy.mounted = mounted;
            return copy;
        }

        int sum() {
            return Arrays.stream(at).sum();
        }
    }

    private static final class State {
        int[][] masters = new int[3][16];
        List<Piece> pieces = new ArrayList<>();
        int chosen;
        int radius = 1;
        int wear;
        int offset;
        int sinceNew;
        int sharpness = 100;
        int depth = 3;
        int speed = 2;
        int tolerance = 2;
        int chips;
        boolean jammed;
        int passes;
        int taken;
        int sharpenings;
        int jams;
        int burnt;

        State copy() {
            State copy = new State();
            for (int master = 0; master < 3; master++) {
                copy.masters[master] = masters[master].clone();
            }
            pieces.forEach(piece -> copy.pieces.add(piece.copy()));
            copy.chosen = chosen;
            copy.radius = radius;
            copy.wear = wear;
            copy.offset = offset;
            copy.sinceNew = sinceNew;
            copy.sharpness = sharpness;
            copy.depth = depth;
            copy.speed = speed;
            copy.tolerance = tolerance;
            copy.chips = chips;
            copy.jammed = jammed;
            copy.passes = passes;
            copy.taken = taken;
            copy.sharpenings = sharpenings;
            copy.jams = jams;
            copy.burnt = burnt;
            return copy;
        }
    }

    private State s = new State();
    private final State[] slots = new State[2];
    private final LinkedList<State> saved = new LinkedList<>();
    private String buffer = "";

    PlainLathe() {
        for (int[] master : s.masters) {
            Arrays.fill(master, 30);
        }
    }

    // ---- what the others are made of

    private static void index(boolean fine) {
        if (!fine) {
            throw new IndexOutOfBoundsException();
        }
    }

    private static void argument(boolean fine) {
        if (!fine) {
            throw new IllegalArgumentException();
        }
    }

    private static void state(boolean fine) {
        if (!fine) {
            throw new IllegalStateException();
        }
    }

    private static boolean in(int value, int least, int greatest) {
        return least <= value && value <= greatest;
    }

    private void save() {
        saved.addLast(s.copy());
        if (saved.size() == 7) {
            saved.removeFirst();
        }
    }

    private Piece piece(int number) {
        index(in(number, 0, s.pieces.size() - 1));
        return s.pieces.get(number);
    }

    private Piece turning() {
        return s.pieces.stream().filter(piece -> piece.mounted).findFirst().orElse(null);
    }

    private int[] master() {
        return s.masters[s.chosen];
    }

    private int reading(int step) {
        return IntStream.range(0, 16).filter(other -> Math.abs(other - step) <= s.radius)
                .map(other -> master()[other]).max().getAsInt();
    }

    private int target(int step) {
        int target = reading(step) - s.wear + s.offset;
        return target < 1 ? 1 : target;
    }

    int cutDepth() {
        return s.sharpness == 0 ? 0 : s.sharpness >= 50 ? s.depth : s.depth - s.depth / 2;
    }

    private boolean finished(Piece piece) {
        return IntStream.range(0, 16).noneMatch(step -> piece.at[step] > target(step));
    }

    private boolean ready() {
        return turning() != null && !s.jammed && s.sharpness != 0;
    }

    private int onePass() {
        Piece piece = turning();
        int depth = cutDepth();
        int cut = 0;
        int[] targets = IntStream.range(0, 16).map(this::target).toArray();
        for (int step = 0; step < 16; step++) {
            if (piece.at[step] > targets[step]) {
                int chips = Math.min(depth, piece.at[step] - targets[step]);
                if (s.chips + chips > 200) {
                    s.jammed = true;
                    s.jams++;
                    break;
                }
                piece.at[step] -= chips;
                s.chips += chips;
                cut += chips;
            }
        }
        s.passes++;
        piece.passes++;
        s.taken += cut;
        s.sharpness -= HARDNESS[piece.wood] * s.speed;
        s.sharpness = s.sharpness < 0 ? 0 : s.sharpness;
        s.sinceNew++;
        if (s.sinceNew % 4 == 0 && s.wear < 30) {
            s.wear++;
        }
        return cut;
    }

    /** Whether a master as a text begins so: whole parts with less than 16 steps, and one that is begun. */
    private static boolean begins(String text) {
        String[] parts = text.split(",", -1);
        int steps = 0;
        for (int number = 0; number < parts.length - 1; number++) {
            Matcher matcher = PART.matcher(parts[number]);
            if (!matcher.matches()) {
                return false;
            }
            steps += matcher.group(2) == null ? 1 : Integer.parseInt(matcher.group(2));
            if (steps >= 16) {
                return false;
            }
        }
        String last = parts[parts.length - 1];
        if (PART_BEGUN.matcher(last).matches()) {
            return true;
        }
        Matcher matcher = PART.matcher(last);
        return matcher.matches() && matcher.group(2) != null && steps + Integer.parseInt(matcher.group(2)) <= 16;
    }

    private static List<Integer> stepsOf(String text) {
        List<Integer> steps = new ArrayList<>();
        for (String part : text.split(",", -1)) {
            Matcher matcher = PART.matcher(part);
            argument(matcher.matches());
            int times = matcher.group(2) == null ? 1 : Integer.parseInt(matcher.group(2));
            steps.addAll(Collections.nCopies(times, Integer.parseInt(matcher.group(1))));
        }
        argument(steps.size() == 16);
        return steps;
    }

    private int sumOfDifferences(Piece piece, int master) {
        return IntStream.range(0, 16).map(step -> Math.abs(piece.at[step] - s.masters[master][step])).sum();
    }

    private int faults(Piece piece) {
        return (int) IntStream.range(0, 16)
                .filter(step -> Math.abs(piece.at[step] - master()[step]) > s.tolerance).count();
    }

    // ---- the calls

    int carve(int master, int step, int diameter) {
        index(in(master, 0, 2) && in(step, 0, 15));
        argument(in(diameter, 5, 99));
        save();
        int before = s.masters[master][step];
        s.masters[master][step] = diameter;
        return before;
    }

    int copyMaster(int from, int to) {
        index(in(from, 0, 2) && in(to, 0, 2));
        save();
        int[] before = s.masters[to];
        s.masters[to] = s.masters[from].clone();
        return (int) IntStream.range(0, 16).filter(step -> before[step] != s.masters[to][step]).count();
    }

    int mirrorMaster(int master) {
        index(in(master, 0, 2));
        save();
        int[] before = s.masters[master].clone();
        for (int step = 0; step < 16; step++) {
            s.masters[master][15 - step] = before[step];
        }
        return (int) IntStream.range(0, 16).filter(step -> before[step] != s.masters[master][step]).count();
    }

    int chooseMaster(int master) {
        index(in(master, 0, 2));
        save();
        int before = s.chosen;
        s.chosen = master;
        return before;
    }

    int fitFollower(int radius) {
        argument(in(radius, 0, 3));
        save();
        int before = s.wear;
        s.radius = radius;
        s.wear = 0;
        s.sinceNew = 0;
        return before;
    }

    int changeOffset(int offset) {
        argument(in(offset, 0, 5));
        save();
        int before = s.offset;
        s.offset = offset;
        return before;
    }

    int sharpen() {
        save();
        int before = s.sharpness;
        s.sharpness = 100;
        s.sharpenings++;
        return before;
    }

    int changeDepth(int depth) {
        argument(in(depth, 1, 9));
        save();
        int before = s.depth;
        s.depth = depth;
        return before;
    }

    int changeSpeed(int speed) {
        argument(in(speed, 1, 5));
        save();
        int before = s.speed;
        s.speed = speed;
        return before;
    }

    int changeTolerance(int tolerance) {
        argument(in(tolerance, 0, 20));
        save();
        int before = s.tolerance;
        s.tolerance = tolerance;
        return before;
    }

    int sweep() {
        save();
        int before = s.chips;
        s.chips = 0;
        s.jammed = false;
        return before;
    }

    int addBlank(int wood, int diameter) {
        index(in(wood, 0, 2));
        argument(in(diameter, 20, 120));
        state(s.pieces.size() < 5);
        save();
        Piece piece = new Piece();
        piece.wood = wood;
        Arrays.fill(piece.at, diameter);
        s.pieces.add(piece);
        return s.pieces.size() - 1;
    }

    int burn(int piece) {
        state(!piece(piece).mounted);
        save();
        s.pieces.remove(piece);
        s.burnt++;
        return s.pieces.size();
    }

    void mount(int piece) {
        piece(piece);
        state(turning() == null);
        save();
        piece(piece).mounted = true;
    }

    int takeOut() {
        state(turning() != null);
        save();
        int piece = mounted();
        turning().mounted = false;
        return piece;
    }

    int pass() {
        state(ready());
        save();
        return onePass();
    }

    int passUpTo(int passes) {
        argument(in(passes, 1, 30));
        state(ready());
        save();
        int done = 0;
        while (true) {
            if (done == passes || finished(turning()) || s.jammed || s.sharpness == 0) {
                return done;
            }
            onePass();
            done++;
        }
    }

    int sand(int amount) {
        argument(in(amount, 1, 3));
        state(turning() != null);
        save();
        int before = turning().sum();
        for (int step = 0; step < 16; step++) {
            int now = turning().at[step];
            turning().at[step] = now <= target(step) ? now : Math.max(target(step), now - amount);
        }
        s.taken += before - turning().sum();
        return before - turning().sum();
    }

    int append(int code) {
        argument(in(code, 33, 126));
        state(buffer.length() < 60);
        buffer += (char) code;
        return buffer.length();
    }

    int clearBuffer() {
        int before = buffer.length();
        buffer = "";
        return before;
    }

    int firstError() {
        int read = 0;
        while (read < buffer.length() && begins(buffer.substring(0, read + 1))) {
            read++;
        }
        return read;
    }

    int loadMaster(int master) {
        index(in(master, 0, 2));
        List<Integer> steps = stepsOf(buffer);
        save();
        s.masters[master] = steps.stream().mapToInt(step -> step).toArray();
        buffer = "";
        return Collections.max(steps);
    }

    void keep(int slot) {
        argument(in(slot, 0, 1));
        slots[slot] = s.copy();
    }

    void goBack(int slot) {
        argument(in(slot, 0, 1));
        state(slots[slot] != null);
        save();
        s = slots[slot].copy();
    }

    void undo() {
        state(!saved.isEmpty());
        s = saved.removeLast();
    }

    int savedStates() {
        return saved.size();
    }

    int masterAt(int master, int step) {
        index(in(master, 0, 2) && in(step, 0, 15));
        return s.masters[master][step];
    }

    int chosenMaster() {
        return s.chosen;
    }

    int radius() {
        return s.radius;
    }

    int wear() {
        return s.wear;
    }

    int offset() {
        return s.offset;
    }

    int sharpness() {
        return s.sharpness;
    }

    int depth() {
        return s.depth;
    }

    int speed() {
        return s.speed;
    }

    int tolerance() {
        return s.tolerance;
    }

    int chips() {
        return s.chips;
    }

    int roomForChips() {
        return 200 - s.chips;
    }

    boolean isJammed() {
        return s.jammed;
    }

    int pieces() {
        return s.pieces.size();
    }

    int woodOf(int piece) {
        return piece(piece).wood;
    }

    int diameterAt(int piece, int step) {
        piece(piece);
        index(in(step, 0, 15));
        return piece(piece).at[step];
    }

    int passesOn(int piece) {
        return piece(piece).passes;
    }

    boolean hasMounted() {
        return turning() != null;
    }

    int mounted() {
        state(turning() != null);
        return s.pieces.indexOf(turning());
    }

    int priceOf(int piece) {
        int each = piece(piece).sum() / 16;
        return each * PRICE[piece(piece).wood];
    }

    int passes() {
        return s.passes;
    }

    int woodTaken() {
        return s.taken;
    }

    int sharpenings() {
        return s.sharpenings;
    }

    int jams() {
        return s.jams;
    }

    int burnt() {
        return s.burnt;
    }

    int readingByLooking(int step) {
        index(in(step, 0, 15));
        return reading(step);
    }

    int readingByQueue(int step) {
        return readingByLooking(step);
    }

    int targetAt(int step) {
        index(in(step, 0, 15));
        return target(step);
    }

    int lostGrooves() {
        return (int) IntStream.range(0, 16).filter(step -> reading(step) > master()[step]).count();
    }

    int slimmestMaster() {
        List<Integer> sums = new ArrayList<>();
        for (int[] master : s.masters) {
            sums.add(Arrays.stream(master).sum());
        }
        return sums.indexOf(Collections.min(sums));
    }

    int tooThick(int piece) {
        Piece gauged = piece(piece);
        return Math.max(0, IntStream.range(0, 16).map(step -> gauged.at[step] - master()[step]).max().getAsInt());
    }

    int tooThin(int piece) {
        Piece gauged = piece(piece);
        return Math.max(0, IntStream.range(0, 16).map(step -> master()[step] - gauged.at[step]).max().getAsInt());
    }

    int faultsOf(int piece) {
        return faults(piece(piece));
    }

    boolean isGood(int piece) {
        return faultsOf(piece) == 0;
    }

    int mostLike(int piece) {
        List<Integer> sums = new ArrayList<>();
        for (int master = 0; master < 3; master++) {
            sums.add(sumOfDifferences(piece(piece), master));
        }
        return sums.indexOf(Collections.min(sums));
    }

    int bestCopy() {
        state(!s.pieces.isEmpty());
        List<Integer> marks = new ArrayList<>();
        s.pieces.forEach(piece -> marks.add(100000 * faults(piece) + sumOfDifferences(piece, s.chosen)));
        return marks.indexOf(Collections.min(marks));
    }

    boolean isFinished() {
        state(turning() != null);
        return finished(turning());
    }

    int ifPassed() {
        state(ready());
        State before = s;
        s = before.copy();
        int cut = onePass();
        s = before;
        return cut;
    }

    int passesBySteps() {
        state(turning() != null && s.sharpness != 0);
        Piece trial = turning().copy();
        int depth = cutDepth();
        int passes = 0;
        while (!finished(trial)) {
            for (int step = 0; step < 16; step++) {
                if (trial.at[step] > target(step)) {
                    trial.at[step] = Math.max(target(step), trial.at[step] - depth);
                }
            }
            passes++;
        }
        return passes;
    }

    int passesByDivision() {
        return passesBySteps();
    }

    int passesUntilBlunt() {
        state(turning() != null);
        int passes = 0;
        for (int left = s.sharpness; left > 0; left -= HARDNESS[turning().wood] * s.speed) {
            passes++;
        }
        return passes;
    }

    int chipsOf(int piece) {
        Piece cut = piece(piece);
        return IntStream.range(0, 16).filter(step -> cut.at[step] > target(step))
                .map(step -> cut.at[step] - target(step)).sum();
    }

    double meanDiameter(int piece) {
        return (double) piece(piece).sum() / 16;
    }

    long digest() {
        long hash = 4091;
        for (long value : values()) {
            hash = 31 * hash + value;
        }
        return hash;
    }

    private List<Long> values() {
        List<Long> list = new ArrayList<>();
        for (int[] master : s.masters) {
            put(list, master);
        }
        put(list, s.chosen, s.radius, s.wear, s.offset, s.sharpness, s.depth, cutDepth(), s.speed, s.tolerance);
        put(list, s.chips, s.jammed ? 1 : 0);
        for (int step = 0; step < 16; step++) {
            put(list, reading(step), reading(step), target(step));
        }
        put(list, lostGrooves(), s.pieces.size());
        for (int number = 0; number < s.pieces.size(); number++) {
            put(list, woodOf(number));
            put(list, piece(number).at);
            put(list, passesOn(number), priceOf(number), tooThick(number), tooThin(number));
            put(list, faultsOf(number), mostLike(number), chipsOf(number));
            list.add(Double.doubleToLongBits(meanDiameter(number)));
        }
        put(list, s.pieces.indexOf(turning()) + 1);
        put(list, s.passes, s.taken, s.sharpenings, s.jams, s.burnt, saved.size());
        if (turning() != null) {
            put(list, isFinished() ? 1 : 0, passesUntilBlunt());
            if (s.sharpness > 0) {
                put(list, passesBySteps(), passesByDivision());
            }
        }
        put(list, slots[0] == null ? 0 : 1, slots[1] == null ? 0 : 1, buffer.length());
        put(list, buffer.chars().toArray());
        return list;
    }

    private static void put(List<Long> list, int... values) {
        for (int value : values) {
            list.add((long) value);
        }
    }
}
