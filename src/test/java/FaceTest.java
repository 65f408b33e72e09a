import java.lang.reflect.Constructor;
import java.lang.reflect.Method;
import java.lang.reflect.Modifier;
import java.util.TreeSet;

/** The public face of the document, no more and no less, with its throws clauses. */
public final class FaceTest {
    private static final String[] FACE = {
        "int addBlank(int,int) throws IndexOutOfBoundsException,IllegalArgumentException,IllegalStateException",
        "int append(int) throws IllegalArgumentException,IllegalStateException",
        "int bestCopy() throws IllegalStateException",
        "int burn(int) throws IndexOutOfBoundsException,IllegalStateException",
        "int burnt()",
        "int carve(int,int,int) throws IndexOutOfBoundsException,IllegalArgumentException",
        "int changeDepth(int) throws IllegalArgumentException",
        "int changeOffset(int) throws IllegalArgumentException",
        "int changeSpeed(int) throws IllegalArgumentException",
        "int changeTolerance(int) throws IllegalArgumentException",
        "int chips()",
        "int chipsOf(int) throws IndexOutOfBoundsException",
        "int chooseMaster(int) throws IndexOutOfBoundsException",
        "int chosenMaster()",
        "int clearBuffer()",
        "int copyMaster(int,int) throws IndexOutOfBoundsException",
        "int cutDepth()",
        "int depth()",
        "int diameterAt(int,int) throws IndexOutOfBoundsException",
        "long digest()",
        "int faultsOf(int) throws IndexOutOfBoundsException",
        "int firstError()",
        "int fitFollower(int) throws IllegalArgumentException",
        "void goBack(int) throws IllegalArgumentException,IllegalStateException",
        "boolean hasMounted()",
        "int ifPassed() throws IllegalStateException",
        "boolean isFinished() throws IllegalStateException",
        "boolean isGood(int) throws IndexOutOfBoundsException",
        "boolean isJammed()",
        "int jams()",
        "void keep(int) throws IllegalArgumentException",
        "int loadMaster(int) throws IndexOutOfBoundsException,IllegalArgumentException",
        "int lostGrooves()",
        "int masterAt(int,int) throws IndexOutOfBoundsException",
        "double meanDiameter(int) throws IndexOutOfBoundsException",
        "int mirrorMaster(int) throws IndexOutOfBoundsException",
        "int mostLike(int) throws IndexOutOfBoundsException",
        "void mount(int) throws IndexOutOfBoundsException,IllegalStateException",
        "int mounted() throws IllegalStateException",
        "int offset()",
        "int pass() throws IllegalStateException",
        "int passUpTo(int) throws IllegalArgumentException,IllegalStateException",
        "int passes()",
        "int passesByDivision() throws IllegalStateException",
        "int passesBySteps() throws IllegalStateException",
        "int passesOn(int) throws IndexOutOfBoundsException",
        "int passesUntilBlunt() throws IllegalStateException",
        "int pieces()",
        "int priceOf(int) throws IndexOutOfBoundsException",
        "int radius()",
        "int readingByLooking(int) throws IndexOutOfBoundsException",
        "int readingByQueue(int) throws IndexOutOfBoundsException",
        "int roomForChips()",
        "int sand(int) throws IllegalArgumentException,IllegalStateException",
        "int savedStates()",
        "int sharpen()",
        "int sharpenings()",
        "int sharpness()",
        "int slimmestMaster()",
        "int speed()",
        "int sweep()",
        "int takeOut() throws IllegalStateException",
        "int targetAt(int) throws IndexOutOfBoundsException",
        "int tolerance()",
        "int tooThick(int) throws IndexOutOfBoundsException",
        "int tooThin(int) throws IndexOutOfBoundsException",
        "void undo() throws IllegalStateException",
        "int wear()",
        "int woodOf(int) throws IndexOutOfBoundsException",
        "int woodTaken()",
    };

    public static void main(String[] args) {
        Checks checks = new Checks();
        TreeSet<String> due = new TreeSet<>(java.util.List.of(FACE));
        TreeSet<String> got = new TreeSet<>();
        TreeSet<String> open = new TreeSet<>();
        TreeSet<String> hidden = new TreeSet<>();
        for (Method method : LatheCopies.class.getDeclaredMethods()) {
            if (Modifier.isPublic(method.getModifiers())) {
                got.add(told(method));
                open.add(method.getName());
                checks.due(method.getName() + " is static", Modifier.isStatic(method.getModifiers()), false);
            } else {
                hidden.add(method.getName());
                checks.due(method.getName() + " is private", Modifier.isPrivate(method.getModifiers()), true);
            }
        }
        checks.due("face", got, due);
        hidden.retainAll(open);
        checks.due("private methods with names of public ones", hidden, new TreeSet<String>());
        for (java.lang.reflect.Field field : LatheCopies.class.getDeclaredFields()) {
            checks.due(field.getName() + " is private", Modifier.isPrivate(field.getModifiers()), true);
        }
        Constructor<?>[] constructors = LatheCopies.class.getDeclaredConstructors();
        checks.due("constructors", constructors.length, 1);
        checks.due("constructor is public", Modifier.isPublic(constructors[0].getModifiers()), true);
        checks.due("class is public and final", LatheCopies.class.getModifiers(), Modifier.PUBLIC | Modifier.FINAL);
        checks.end();
    }

    private static String told(Method method) {
        return method.getReturnType().getSimpleName() + " " + method.getName()
                + "(" + joined(method.getParameterTypes()) + ")"
                + (method.getExceptionTypes().length == 0 ? "" : " throws " + joined(method.getExceptionTypes()));
    }

    private static String joined(Class<?>[] types) {
        StringBuilder names = new StringBuilder();
        for (Class<?> type : types) {
            names.append(names.length() == 0 ? "" : ",").append(type.getSimpleName());
        }
        return names.toString();
    }
}
