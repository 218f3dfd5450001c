import java.lang.reflect.Field;
import java.lang.reflect.Method;
import java.lang.reflect.Modifier;
import java.util.Arrays;
import java.util.Set;
import java.util.TreeSet;

/** The face: each constant, each method with its exceptions, nothing else; and promise 1, a new object. */
public final class FaceTest {
    private static final String I = "IndexOutOfBoundsException";
    private static final String A = "IllegalArgumentException";
    private static final String S = "IllegalStateException";
    private static final String[] METHODS = {
        "int make(int) " + A + " " + S, "void shadow(int) " + I + " " + S, "void put(int,int,int) " + I + " " + S,
        "void putTop(int,int,int) " + I + " " + S, "int take(int) " + I + " " + S,
        "boolean setClass(int,int,boolean) " + I + " " + A, "boolean setState(int,int,boolean) " + I + " " + A,
        "int setAttribute(int,int,int) " + I + " " + A, "int setPart(int,int) " + I + " " + A,
        "int shownParent(int) " + I, "boolean isIn(int) " + I, "int test(int,int,int) " + A + " " + I + " " + S,
        "int join(int) " + A + " " + S, "int select() " + S, "int weight(int) " + I, "boolean matches(int,int,int) " + I,
        "int allThat(int,int) " + I, "int sheet(int,int,int) " + A + " " + I + " " + S, "boolean turn(int,boolean) " + I,
        "int rule(int,int) " + I + " " + S, "void when(int,int,int) " + I + " " + A,
        "int declare(int,int,int,int,boolean) " + I + " " + A,
        "int declareVar(int,int,int,int,int,boolean) " + I + " " + A, "int undeclare(int,int) " + I + " " + A,
        "int setWidth(int) " + A, "int value(int,int) " + I + " " + A + " " + S, "int size(int) " + I + " " + S,
        "int seen(int,int) " + I + " " + A + " " + S, "int made(int) " + I + " " + S,
        "int why(int,int,int) " + I + " " + A + " " + S, "int valueAnew(int,int) " + I + " " + A + " " + S,
        "int marked() ", "int flushes() ", "int restyled() ", "int shared() ", "int tick(int) " + A,
        "void animation(int,int,int,boolean) " + A, "int frame(int,int,int,int) " + A,
        "int listen(int,int,int,int) " + I + " " + A + " " + S};
    private static final Object[] CONSTANTS = {"NONE", -1, "AUTO_VALUE", -1000000, "INVALID", -1000001,
        "BELOW", 0, "CHILD", 1, "NEXT", 2, "LATER", 3,
        "KIND", 0, "CLASS", 1, "STATE", 2, "ATTRIBUTE", 3, "NTH", 4, "NOT", 5, "IS", 6, "HAS", 7, "HOST", 8, "PART", 9,
        "AGENT", 0, "USER", 1, "AUTHOR", 2, "WIDE", 0, "NARROW", 1, "ROOMY", 2, "TIGHT", 3, "KNOWN", 4,
        "PLAIN", 0, "PX", 1, "EM", 2, "TOP", 3, "PERCENT", 4, "HELD", 5, "AUTO", 6, "INITIAL", 7, "INHERIT", 8,
        "UNSET", 9, "REVERT", 10,
        "TINT", 0, "SIZE", 1, "SPAN", 2, "GAP", 3, "EDGE", 4, "SHOWN", 5, "HOLDS", 6, "STEP", 7, "RESET", 8, "MADE", 9,
        "EASE", 10, "PLAY", 11};

    public static void main(String[] args) throws ReflectiveOperationException {
        Check check = new Check("FaceTest");
        checkMethods(check);
        checkConstants(check);
        checkNewObject(check);
        check.end();
    }

    private static String told(Method m) {
        StringBuilder text = new StringBuilder(m.getReturnType().getName()).append(' ').append(m.getName()).append('(');
        text.append(String.join(",", Arrays.stream(m.getParameterTypes()).map(Class::getName).toList())).append(") ");
        return text.append(String.join(" ", Arrays.stream(m.getExceptionTypes()).map(Class::getSimpleName).toList())).toString();
    }

    private static void checkMethods(Check check) {
        Set<String> wanted = new TreeSet<>(Arrays.asList(METHODS));
        Set<String> got = new TreeSet<>();
        for (Method m : Cascadery.class.getDeclaredMethods()) {
            check.due("who sees " + m.getName(), Modifier.isPublic(m.getModifiers()) || Modifier.isPrivate(m.getModifiers())
                    || m.isSynthetic(), true);
            if (Modifier.isPublic(m.getModifiers())) {
                got.add(told(m));
            }
        }
        for (String m : wanted) {
            check.due("the method " + m, got.contains(m), true);
        }
        check.due("how many methods", got.size(), wanted.size());
        check.due("how many constructors", Cascadery.class.getConstructors().length, 1);
    }

    private static void checkConstants(Check check) throws ReflectiveOperationException {
        int count = 0;
        for (Field f : Cascadery.class.getFields()) {
            count++;
            check.due("is constant " + f.getName(), Modifier.isStatic(f.getModifiers()) && Modifier.isFinal(f.getModifiers()), true);
        }
        check.due("how many constants", count, CONSTANTS.length / 2);
        for (int i = 0; i < CONSTANTS.length; i += 2) {
            check.due((String) CONSTANTS[i], Cascadery.class.getField((String) CONSTANTS[i]).getInt(null), (Integer) CONSTANTS[i + 1]);
        }
    }

    private static void checkNewObject(Check check) {
        Cascadery x = new Cascadery();
        check.due("flushes", x.flushes() + x.restyled() + x.shared() + x.marked(), 0);
        check.due("element 0 is in", x.isIn(0), true);
        check.due("element 0 has the kind 0", x.test(Cascadery.KIND, 0, 0), 1);
        x.select();
        check.due("it matches that", x.allThat(0, -1), 1);
        check.bounds("element 1", () -> x.isIn(1));
        check.bounds("sheet 0", () -> x.turn(0, true));
        check.bounds("rule 0", () -> x.when(0, 0, 0));
        int[] initial = {0, 16, Cascadery.AUTO_VALUE, 0, 0, 1, 0, 0, -1, 0, 0, -1,
            Cascadery.INVALID, Cascadery.INVALID, Cascadery.INVALID};
        for (int p = 0; p < initial.length; p++) {
            check.due("the first value of " + p, x.value(0, p), initial[p]);
        }
        check.due("the width at first", x.setWidth(7), 1000);
        check.due("another object knows nothing of it", new Cascadery().setWidth(0), 1000);
    }
}
