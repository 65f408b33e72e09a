import java.util.Objects;

/** Counts the answers that are not as due, prints them, and ends the test with exit code 1 if there was one. */
final class Checks {
    private int wrong;
    private String sentence = "";

    /** The sentence of the document that the answers from here on belong to; it is printed with those not as due. */
    void sentence(String told) {
        sentence = "\"" + told + "\": ";
    }

    void due(String what, Object got, Object want) {
        if (!Objects.equals(got, want)) {
            wrong++;
            System.out.println(sentence + what + " answered " + got + ", due is " + want);
        }
    }

    void passes(String what, Runnable call) {
        due(what + " throws", thrownBy(call), null);
    }

    /** A call that throws must throw exactly this class, and must leave the whole state as it was. */
    void refused(String what, LatheCopies lathe, Class<? extends RuntimeException> want, Runnable call) {
        long before = lathe.digest();
        due(what + " throws", thrownBy(call), want);
        due(what + " changes nothing: digest", lathe.digest(), before);
    }

    static Class<?> thrownBy(Runnable call) {
        try {
            call.run();
            return null;
        } catch (RuntimeException e) {
            return e.getClass();
        }
    }

    void end() {
        if (wrong != 0) {
            System.out.println(wrong + " answers are not as due");
            System.exit(1);
        }
    }

    static void type(LatheCopies lathe, String text) {
        lathe.clearBuffer();
        for (char sign : text.toCharArray()) {
            lathe.append(sign);
        }
    }

    static void load(LatheCopies lathe, int master, String text) {
        type(lathe, text);
        lathe.loadMaster(master);
    }

    /** A lathe with one blank, which is mounted. */
    static LatheCopies mounted(int wood, int diameter) {
        LatheCopies lathe = new LatheCopies();
        lathe.addBlank(wood, diameter);
        lathe.mount(0);
        return lathe;
    }

    /** A new follower, a piece of pine of 60 above the master 0, speed 1, and a cutter of this sharpness. */
    static LatheCopies sharp(int sharpness) {
        LatheCopies lathe = mounted(0, 60);
        load(lathe, 2, "99x16");
        lathe.chooseMaster(2);
        for (int fast = (100 - sharpness) / 5; fast > 0; fast--) {
            lathe.changeSpeed(5);
            lathe.pass();
        }
        lathe.changeSpeed(1);
        for (int slow = (100 - sharpness) % 5; slow > 0; slow--) {
            lathe.pass();
        }
        lathe.chooseMaster(0);
        lathe.fitFollower(0);
        return lathe;
    }

    /** Sands a piece to a shape, which the master 2, under a new follower, has then; no pass is done. */
    static void shape(LatheCopies lathe, int piece, String text) {
        load(lathe, 2, text);
        lathe.chooseMaster(2);
        lathe.fitFollower(0);
        lathe.mount(piece);
        for (int more = 0; more < 39 && !lathe.isFinished(); more++) {
            lathe.sand(3);
        }
        lathe.takeOut();
    }

    static String master(LatheCopies lathe, int master) {
        StringBuilder told = new StringBuilder();
        for (int step = 0; step < 16; step++) {
            told.append(step == 0 ? "" : " ").append(lathe.masterAt(master, step));
        }
        return told.toString();
    }

    static String piece(LatheCopies lathe, int piece) {
        StringBuilder told = new StringBuilder();
        for (int step = 0; step < 16; step++) {
            told.append(step == 0 ? "" : " ").append(lathe.diameterAt(piece, step));
        }
        return told.toString();
    }

    static String times(String number, int times) {
        return (number + " ").repeat(times).trim();
    }
}
