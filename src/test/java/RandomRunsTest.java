import java.lang.reflect.InvocationTargetException;
import java.lang.reflect.Method;
import java.util.ArrayList;
import java.util.Comparator;
import java.util.List;
import java.util.Random;

/** Random runs of up to 512 calls, digests among them, whose answers are compared with those of the plain lathe. */
public final class RandomRunsTest {
    private static final int RUNS = 800;
    private static final int CALLS = 512;
    /** A text has at most 97 signs before one is put in, and two calls and two digests come with it. */
    private static final int MOST_CALLS_AT_ONCE = 102;
    private static final String[] OFTEN = {
        "addBlank", "mount", "mount", "pass", "pass", "passUpTo", "passUpTo", "sharpen", "sweep", "takeOut", "sand",
        "carve", "carve", "undo", "goBack", "keep", "text", "text", "text", "fitFollower", "chooseMaster",
    };
    private static final List<Method> METHODS = methods();

    private final Random random;
    private final LatheCopies lathe = new LatheCopies();
    private final PlainLathe plain = new PlainLathe();
    private final StringBuilder told = new StringBuilder();
    private int calls;

    private RandomRunsTest(int seed) {
        random = new Random(seed);
    }

    public static void main(String[] args) {
        for (int seed = 0; seed < RUNS; seed++) {
            String wrong = new RandomRunsTest(seed).run();
            if (wrong != null) {
                System.out.println("run " + seed + ": " + wrong);
                System.exit(1);
            }
        }
    }

    /** In the order of their names, so that a seed tells the same run on each machine. */
    private static List<Method> methods() {
        List<Method> methods = new ArrayList<>();
        for (Method method : LatheCopies.class.getDeclaredMethods()) {
            if (java.lang.reflect.Modifier.isPublic(method.getModifiers())) {
                methods.add(method);
            }
        }
        methods.sort(Comparator.comparing(Method::getName));
        return methods;
    }

    private String run() {
        while (calls <= CALLS - MOST_CALLS_AT_ONCE) {
            String name = random.nextInt(3) > 0 ? OFTEN[random.nextInt(OFTEN.length)] : null;
            if ("text".equals(name)) {
                for (char sign : text().toCharArray()) {
                    told("append", sign);
                    if (!same(method("append"), (int) sign)) {
                        return told.toString();
                    }
                }
                name = random.nextInt(4) > 0 ? "loadMaster" : "firstError";
            }
            Method method = name == null ? METHODS.get(random.nextInt(METHODS.size())) : method(name);
            Object[] arguments = new Object[method.getParameterCount()];
            for (int number = 0; number < arguments.length; number++) {
                arguments[number] = argument(method.getName(), number);
            }
            told(method.getName(), arguments);
            if (!same(method, arguments) || !same(method("digest"))) {
                return told.toString();
            }
        }
        return null;
    }

    private static Method method(String name) {
        for (Method method : METHODS) {
            if (method.getName().equals(name)) {
                return method;
            }
        }
        throw new IllegalArgumentException(name);
    }

    private void told(String name, Object... arguments) {
        told.append(' ').append(name).append(java.util.Arrays.toString(arguments));
    }

    private boolean same(Method method, Object... arguments) {
        try {
            Method plainMethod = PlainLathe.class.getDeclaredMethod(method.getName(), method.getParameterTypes());
            calls++;
            Object got = answer(method, lathe, arguments);
            Object due = answer(plainMethod, plain, arguments);
            told.append(" -> ").append(got);
            if (!java.util.Objects.equals(got, due)) {
                told.append(", due is ").append(due);
                return false;
            }
            return true;
        } catch (NoSuchMethodException e) {
            throw new IllegalStateException(e);
        }
    }

    private static Object answer(Method method, Object object, Object... arguments) {
        try {
            return method.invoke(object, arguments);
        } catch (InvocationTargetException e) {
            return e.getCause().getClass();
        } catch (IllegalAccessException e) {
            throw new IllegalStateException(e);
        }
    }

    private int argument(String name, int number) {
        int chance = random.nextInt(40);
        if (chance == 0) {
            return random.nextInt();
        }
        if (chance == 1) {
            return new int[] {Integer.MIN_VALUE, Integer.MAX_VALUE, -1, 0, 16, 100}[random.nextInt(6)];
        }
        switch (name + number) {
            case "carve1": case "masterAt1": case "diameterAt1":
            case "readingByLooking0": case "readingByQueue0": case "targetAt0":
                return from(-1, 16, 0, 15);
            case "carve2":
                return from(4, 100, 5, 99);
            case "addBlank1":
                return from(19, 121, 20, 120);
            case "append0":
                return from(32, 127, 44, 57);
            case "passUpTo0":
                return from(0, 31, 1, 30);
            case "changeTolerance0":
                return from(-1, 21, 0, 20);
            case "changeDepth0":
                return from(0, 10, 1, 9);
            case "changeSpeed0": case "changeOffset0":
                return from(-1, 6, 1, 5);
            case "sand0": case "fitFollower0":
                return from(-1, 4, 0, 3);
            case "keep0": case "goBack0":
                return from(-1, 2, 0, 1);
            case "carve0": case "copyMaster0": case "copyMaster1": case "mirrorMaster0": case "chooseMaster0":
            case "masterAt0": case "addBlank0": case "loadMaster0":
                return from(-1, 3, 0, 2);
            default:
                return from(-1, 5, 0, 3);
        }
    }

    private int from(int least, int greatest, int usualLeast, int usualGreatest) {
        return random.nextInt(10) == 0 ? least + random.nextInt(greatest - least + 1)
                : usualLeast + random.nextInt(usualGreatest - usualLeast + 1);
    }

    /** Often a whole master, at times with a sign changed, put in or left out. */
    private String text() {
        StringBuilder text = new StringBuilder();
        if (random.nextInt(3) > 0) {
            calls++;
            lathe.clearBuffer();
            plain.clearBuffer();
            told("clearBuffer");
        }
        int left = 16;
        while (left > 0) {
            int times = Math.min(left, 1 + random.nextInt(random.nextInt(3) == 0 ? 16 : 5));
            text.append(text.length() == 0 ? "" : ",").append(5 + random.nextInt(95));
            if (times > 1 || random.nextInt(3) == 0) {
                text.append('x').append(times);
            }
            left -= times;
        }
        if (random.nextInt(3) == 0) {
            int place = random.nextInt(text.length());
            char sign = "0123456789x,~ab".charAt(random.nextInt(15));
            switch (random.nextInt(3)) {
                case 0 -> text.setCharAt(place, sign);
                case 1 -> text.insert(place, sign);
                default -> text.deleteCharAt(place);
            }
        }
        return text.toString();
    }
}
