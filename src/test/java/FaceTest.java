import java.lang.reflect.Field;
import java.lang.reflect.Method;
import java.lang.reflect.Modifier;
import java.util.TreeSet;

/** The public face: the constants, and no member more or less than the document has. */
final class FaceTest {
    private static final String METHODS = "account addBill allot append bestDay bill billsWithin count cover day "
        + "deposit dropBill dueNext enough envelope filled fund fundLack give income inside isBalanced lacks load "
        + "loadError loadStatement logPart need net pay pool poolLow postpone restoreSnapshot run safe saveSnapshot "
        + "setMode setMonthly setTarget settle share shift shortDay spend spentPerDay tightest transfer "
        + "transferPart transfers tree undo accountLow";

    private static final Checks checks = new Checks();

    public static void main(String[] args) {
        checks.due("NONE", EnvelopeBudget.NONE, -1);
        checks.due("FULL", EnvelopeBudget.FULL, -2);
        checks.due("LACK", EnvelopeBudget.LACK, -3000000000000L);
        checks.due("GONE", EnvelopeBudget.GONE, -2000000001);
        checks.due("NO_VALUE", EnvelopeBudget.NO_VALUE, -4000000000000L);
        members();
        checks.end("FaceTest");
    }

    private static void members() {
        Class<?> face = EnvelopeBudget.class;
        checks.due("final", Modifier.isFinal(face.getModifiers()), true);
        checks.due("constructors", face.getDeclaredConstructors().length, 1);
        TreeSet<String> due = new TreeSet<>(java.util.Arrays.asList(METHODS.split(" ")));
        TreeSet<String> shown = new TreeSet<>();
        for (Method method : face.getDeclaredMethods()) {
            if (!Modifier.isPrivate(method.getModifiers())) {
                shown.add(method.getName());
                checks.due(method.getName() + " is public", Modifier.isPublic(method.getModifiers()), true);
            }
        }
        checks.due("methods", shown.toString(), due.toString());
        int constants = 0;
        for (Field field : face.getDeclaredFields()) {
            constants += Modifier.isPrivate(field.getModifiers()) ? 0 : 1;
        }
        checks.due("constants", constants, 5);
        for (Class<?> inner : face.getDeclaredClasses()) {
            for (Method method : inner.getDeclaredMethods()) {
                checks.due(method.getName() + " bears no name of the face", due.contains(method.getName()), false);
            }
        }
    }
}
