import java.lang.reflect.Constructor;
import java.lang.reflect.Executable;
import java.lang.reflect.Field;
import java.lang.reflect.Method;
import java.lang.reflect.Modifier;
import java.util.Arrays;
import java.util.HashSet;
import java.util.Set;
import java.util.TreeSet;

/** The public face of the class: what stands in the document and nothing more. */
final class FaceTest {
    static final String[] FACE = {
        "QualityGate()",
        "int stage(int,int,int,int,int) throws IllegalArgumentException, IllegalStateException",
        "int commit() throws IllegalStateException, UnsupportedOperationException",
        "int discard()",
        "int staged()",
        "int rejectedRow() throws NoSuchElementException",
        "int rejectedRule() throws NoSuchElementException",
        "int rejectedOther() throws NoSuchElementException",
        "boolean isOtherStaged() throws NoSuchElementException",
        "int removeRow(int) throws NoSuchElementException",
        "int setValue(int,int,int) throws NoSuchElementException, IndexOutOfBoundsException, IllegalArgumentException",
        "int valueAt(int,int) throws NoSuchElementException, IndexOutOfBoundsException",
        "int rowCount()",
        "int rowAt(int) throws IndexOutOfBoundsException",
        "int addRange(int,int,int,boolean)"
            + " throws IndexOutOfBoundsException, IllegalArgumentException, IllegalStateException",
        "int addRequired(int,boolean) throws IndexOutOfBoundsException, IllegalStateException",
        "int addOrder(int,int,boolean)"
            + " throws IndexOutOfBoundsException, IllegalArgumentException, IllegalStateException",
        "int addUnique(int,boolean) throws IndexOutOfBoundsException, IllegalStateException",
        "int addDependency(int,int,boolean)"
            + " throws IndexOutOfBoundsException, IllegalArgumentException, IllegalStateException",
        "int dropRule(int) throws IndexOutOfBoundsException, IllegalStateException",
        "int violations(int) throws IndexOutOfBoundsException, IllegalStateException",
        "boolean isBad(int) throws NoSuchElementException",
        "boolean conflict(int,int) throws NoSuchElementException, IllegalArgumentException",
        "int groups()",
        "int groupSize(int) throws NoSuchElementException",
        "int fewestRemovals()",
        "int fewestRemovalsByTrying()",
        "boolean isInRepair(int) throws NoSuchElementException",
        "int repair()",
        "boolean determines(int,int) throws IllegalArgumentException, IndexOutOfBoundsException",
        "boolean determinesByPairs(int,int) throws IllegalArgumentException, IndexOutOfBoundsException",
        "int minimalCount(int) throws IndexOutOfBoundsException",
        "int minimalCountByTrying(int) throws IndexOutOfBoundsException",
        "int minimalAt(int,int) throws IndexOutOfBoundsException",
        "int closureOf(int) throws IllegalArgumentException",
        "boolean isKey(int) throws IllegalArgumentException",
        "int smallestKey() throws NoSuchElementException",
        "int errorOf(int,int) throws IndexOutOfBoundsException, IllegalArgumentException",
        "int setFactor(int) throws IllegalArgumentException",
        "int medianOf(int) throws IndexOutOfBoundsException, NoSuchElementException",
        "int spreadOf(int) throws IndexOutOfBoundsException, NoSuchElementException",
        "boolean isOutlier(int,int) throws NoSuchElementException, IndexOutOfBoundsException",
        "int outliers(int) throws IndexOutOfBoundsException",
        "int saveProfile() throws IllegalStateException",
        "int drift(int) throws IndexOutOfBoundsException, NoSuchElementException, IllegalStateException",
        "int mostDrifted() throws NoSuchElementException, IllegalStateException",
        "double meanOf(int) throws IndexOutOfBoundsException, ArithmeticException",
        "float missingShare(int) throws IndexOutOfBoundsException, ArithmeticException",
        "boolean isConsistent()",
    };

    private final Check check;

    FaceTest(Check check) {
        this.check = check;
    }

    void run() {
        check.test("the public face");
        check.due(Modifier.PUBLIC | Modifier.FINAL, QualityGate.class.getModifiers());
        check.due(Object.class, QualityGate.class.getSuperclass());
        check.due(0, QualityGate.class.getInterfaces().length);
        check.due("", QualityGate.class.getPackageName());
        Set<String> found = new TreeSet<>();
        for (Constructor<?> constructor : QualityGate.class.getDeclaredConstructors()) {
            check.due(Modifier.PUBLIC, constructor.getModifiers());
            found.add(signature("QualityGate", constructor));
        }
        Set<String> names = new HashSet<>();
        for (Method method : QualityGate.class.getDeclaredMethods()) {
            if (Modifier.isPublic(method.getModifiers())) {
                check.due(Modifier.PUBLIC, method.getModifiers());
                found.add(signature(method.getReturnType() + " " + method.getName(), method));
                names.add(method.getName());
            }
        }
        check.due(new TreeSet<>(Arrays.asList(FACE)), found);
        othersArePrivate(names);
        staticFieldsAreFinal();
    }

    private void othersArePrivate(Set<String> names) {
        check.test("LANGUAGE.md, rule 1");
        for (Method method : QualityGate.class.getDeclaredMethods()) {
            int modifiers = method.getModifiers();
            check.due(true, Modifier.isPublic(modifiers) || Modifier.isPrivate(modifiers));
            check.due(true, Modifier.isPublic(modifiers) || !names.contains(method.getName()));
        }
        for (Field field : QualityGate.class.getDeclaredFields()) {
            check.due(true, Modifier.isPrivate(field.getModifiers()) || field.getName().equals("MISSING"));
        }
        for (Class<?> inside : QualityGate.class.getDeclaredClasses()) {
            int modifiers = inside.getModifiers();
            check.due(false, Modifier.isPublic(modifiers) || Modifier.isProtected(modifiers));
        }
    }

    private void staticFieldsAreFinal() {
        check.test("LANGUAGE.md, rules 5 and 11");
        // the limits are "some twelve" classes and "some twenty" fields
        check.due(true, classes().length <= 14);
        for (Class<?> inside : classes()) {
            int ownFields = 0;
            for (Field field : inside.getDeclaredFields()) {
                boolean isStatic = Modifier.isStatic(field.getModifiers());
                check.due(true, !isStatic || Modifier.isFinal(field.getModifiers()));
                ownFields += isStatic ? 0 : 1;
            }
            check.due(true, ownFields <= 22);
            for (Method method : inside.getDeclaredMethods()) {
                check.due(true, method.getParameterCount() <= 7);
            }
        }
    }

    private static Class<?>[] classes() {
        Class<?>[] inside = QualityGate.class.getDeclaredClasses();
        Class<?>[] all = Arrays.copyOf(inside, inside.length + 1);
        all[inside.length] = QualityGate.class;
        return all;
    }

    private static String signature(String start, Executable executable) {
        StringBuilder text = new StringBuilder(start).append('(');
        for (Class<?> parameter : executable.getParameterTypes()) {
            text.append(text.charAt(text.length() - 1) == '(' ? "" : ",").append(parameter.getSimpleName());
        }
        text.append(')');
        String before = " throws ";
        for (Class<?> thrown : executable.getExceptionTypes()) {
            text.append(before).append(thrown.getSimpleName());
            before = ", ";
        }
        return text.toString();
    }
}
