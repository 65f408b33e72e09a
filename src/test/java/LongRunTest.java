/** Runs up to the 512th call of an object, the sums of its accounts among them. */
public final class LongRunTest {
    private static final int CALLS = 512;

    private final Checks checks = new Checks();

    public static void main(String[] args) {
        LongRunTest test = new LongRunTest();
        test.lastCall();
        test.statesOverALongRun();
        test.accountsOverALongRun();
        test.burntOverALongRun();
        test.mostPasses();
        test.checks.end();
    }

    private void lastCall() {
        checks.sentence("An object is used for at most 512 calls after it has been made");
        LatheCopies lathe = new LatheCopies();
        for (int call = 1; call < CALLS; call++) {
            checks.due("sharpen, call " + call, lathe.sharpen(), 100);
        }
        checks.due("sharpenings, call 512", lathe.sharpenings(), CALLS - 1);
    }

    private void statesOverALongRun() {
        checks.sentence("At most 6 states are saved; the oldest one is dropped first.");
        LatheCopies lathe = new LatheCopies();
        int calls = 0;
        int round = 0;
        while (calls + 14 <= CALLS) {
            for (int more = 0; more < 7; more++) {
                lathe.carve(0, 0, 5 + (round + more) % 95);
            }
            for (int back = 5; back >= 1; back--) {
                lathe.undo();
            }
            checks.due("the first but one, round " + round, lathe.masterAt(0, 0), 5 + (round + 1) % 95);
            checks.due("savedStates, round " + round, lathe.savedStates(), 1);
            calls += 14;
            round += 13;
        }
    }

    private void accountsOverALongRun() {
        checks.sentence("Returns how much was cut and sanded off so far.");
        LatheCopies lathe = new LatheCopies();
        lathe.changeDepth(9);
        Checks.load(lathe, 0, "5x16");
        int calls = 7;
        int taken = 0;
        int passes = 0;
        int jams = 0;
        while (calls + 16 <= CALLS - 5) {
            lathe.addBlank(0, 120);
            lathe.mount(0);
            int[] cut = {lathe.pass(), lathe.pass(), 0, 0};
            lathe.sweep();
            cut[2] = lathe.pass();
            int sanded = lathe.sand(3);
            lathe.sweep();
            cut[3] = lathe.pass();
            checks.due("a pass", cut[0], 144);
            checks.due("a pass that jams", cut[1], 54);
            checks.due("a pass of a swept one", cut[2], 144);
            checks.due("sand", sanded, 48);
            taken += cut[0] + cut[1] + cut[2] + cut[3] + sanded;
            passes += 4;
            jams++;
            checks.due("passesOn", lathe.passesOn(0), 4);
            checks.due("woodTaken", lathe.woodTaken(), taken);
            lathe.sharpen();
            lathe.sweep();
            lathe.fitFollower(1);
            lathe.takeOut();
            lathe.burn(0);
            calls += 16;
        }
        checks.due("passes at last", lathe.passes(), passes);
        checks.due("jams at last", lathe.jams(), jams);
        checks.due("burnt at last", lathe.burnt(), jams);
        checks.due("sharpenings at last", lathe.sharpenings(), jams);
        checks.due("woodTaken at last", lathe.woodTaken(), taken);
    }

    private void burntOverALongRun() {
        checks.sentence("Returns how many pieces were burnt so far.");
        LatheCopies lathe = new LatheCopies();
        for (int round = 1; round <= 170; round++) {
            checks.due("addBlank", lathe.addBlank(round % 3, 20 + round % 101), 0);
            checks.due("priceOf", lathe.priceOf(0), (20 + round % 101) * new int[] {2, 5, 9}[round % 3]);
            checks.due("burn", lathe.burn(0), 0);
        }
        checks.due("burnt", lathe.burnt(), 170);
    }

    /** As many passes as calls can do: thirty a call, as far as the piece is above its targets. */
    private void mostPasses() {
        checks.sentence("Returns how many passes were done so far.");
        LatheCopies lathe = Checks.mounted(0, 120);
        Checks.load(lathe, 0, "5x16");
        lathe.changeDepth(1);
        lathe.changeSpeed(1);
        int passes = 0;
        for (int round = 1; round <= 9; round++) {
            passes += lathe.passUpTo(30);
            lathe.sweep();
            checks.due("passes", lathe.passes(), passes);
            checks.due("passesOn", lathe.passesOn(0), passes);
            checks.due("wear", lathe.wear(), Math.min(30, passes / 4));
            if (lathe.sharpness() < 20) {
                lathe.sharpen();
            }
        }
        checks.due("passes, each ninth call jams", passes, 9 * 13);
    }
}
