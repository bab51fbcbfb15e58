import java.lang.reflect.Field;
import java.lang.reflect.Method;
import java.lang.reflect.Modifier;
import java.util.Arrays;
import java.util.TreeSet;

/** The public face: its constants and methods as the document has them, and no member more or less. */
final class FaceTest {
    private static final String[] CONSTANTS = {"int NONE -1", "int FULL -2", "long LACK -3000000000000",
        "int GONE -2000000001", "long NO_VALUE -4000000000000"};

    /** Behind each call: X if it may throw IndexOutOfBoundsException, A if IllegalArgumentException. */
    private static final String[] METHODS = {"int append(long)", "int load()", "int loadError()",
        "int loadStatement()", "int count(int) A", "int day()", "long pool()", "long account(int) X",
        "long envelope(int,int) AX", "long tree(int) X", "int inside(int) X", "long fund(int,int) AX",
        "int income(int,int) AX", "int bill(int,int) AX", "long need(int) X", "boolean isBalanced()", "int run(int) A",
        "long allot()", "long spend(int,int,int) AX", "long shift(int,int,int) AX", "long give(int,int) AX",
        "long transfer(int,int,int) AX", "long deposit(int,int) AX", "int setMonthly(int,int) AX",
        "int setMode(int,int,int) AX", "int setTarget(int,int) AX", "int addBill(int,int,int,int,int) AX",
        "int dropBill(int) X", "long pay(int) X", "long share(int,int,int,int,int) AX",
        "long settle(int,int,int,int) AX", "long net(int) X", "int transfers()", "long transferPart(int,int) A",
        "int undo()", "long logPart(int,int) A", "long tightest(int,int) A", "long accountLow(int,int) AX",
        "int shortDay(int,int) AX", "long poolLow(int) A", "long fundLack(int) X", "long billsWithin(int) A",
        "long safe(int) A", "int enough(int) X", "double spentPerDay(int) X", "float filled(int) X",
        "long cover(int) X", "long lacks()", "int postpone(int,int) AX", "int dueNext(int)", "int bestDay(int,int) A",
        "int saveSnapshot(int) A", "int restoreSnapshot(int) A"};

    private static final Checks checks = new Checks();

    public static void main(String[] args) throws IllegalAccessException {
        Class<?> face = EnvelopeBudget.class;
        checks.due("public and final", face.getModifiers(), Modifier.PUBLIC | Modifier.FINAL);
        checks.due("constructors", face.getDeclaredConstructors().length, 1);
        checks.due("the constructor", Arrays.toString(face.getConstructors()), "[public EnvelopeBudget()]");
        constants(face);
        methods(face);
        checks.end("FaceTest");
    }

    private static void constants(Class<?> face) throws IllegalAccessException {
        TreeSet<String> shown = new TreeSet<>();
        for (Field field : face.getDeclaredFields()) {
            if (!Modifier.isPrivate(field.getModifiers())) {
                checks.due(field.getName(), field.getModifiers(), Modifier.PUBLIC | Modifier.STATIC | Modifier.FINAL);
                shown.add(field.getType() + " " + field.getName() + " " + field.get(null));
            }
        }
        checks.due("constants", shown.toString(), new TreeSet<>(Arrays.asList(CONSTANTS)).toString());
    }

    private static void methods(Class<?> face) {
        TreeSet<String> shown = new TreeSet<>();
        TreeSet<String> names = new TreeSet<>();
        for (Method method : face.getDeclaredMethods()) {
            if (!Modifier.isPrivate(method.getModifiers())) {
                checks.due(method.getName(), method.getModifiers(), Modifier.PUBLIC);
                shown.add(told(method));
                names.add(method.getName());
            }
        }
        checks.due("methods", shown.toString(), new TreeSet<>(Arrays.asList(METHODS)).toString());
        for (Class<?> inner : face.getDeclaredClasses()) {
            for (Method method : inner.getDeclaredMethods()) {
                checks.due(method.getName() + " bears no name of the face", names.contains(method.getName()), false);
            }
        }
    }

    private static String told(Method method) {
        TreeSet<String> thrown = new TreeSet<>();
        for (Class<?> exception : method.getExceptionTypes()) {
            thrown.add(exception == IndexOutOfBoundsException.class ? "X"
                : exception == IllegalArgumentException.class ? "A" : exception.getName());
        }
        StringBuilder parameters = new StringBuilder();
        for (Class<?> parameter : method.getParameterTypes()) {
            parameters.append(parameters.length() > 0 ? "," : "").append(parameter);
        }
        return method.getReturnType() + " " + method.getName() + "(" + parameters + ")"
            + (thrown.isEmpty() ? "" : " " + String.join("", thrown));
    }
}
