import java.lang.reflect.Constructor;
import java.lang.reflect.Field;
import java.lang.reflect.Method;
import java.lang.reflect.Modifier;
import java.util.Arrays;
import java.util.HashSet;
import java.util.Set;
import java.util.TreeSet;

/** The members of the class, against the face that the document tells (all promises, constants too). */
public final class FaceTest {
    private static final String[] FACE = {
        "int appendInput(int,int,int,int,int)", "boolean truncateInput(int)", "int loadMill()", "int playScript()",
        "int errorCode()", "int errorOffset()",
        "int count(int) IllegalArgumentException", "int account(int) IllegalArgumentException",
        "long bound(int) IllegalArgumentException", "int modulus(int) IndexOutOfBoundsException",
        "int inverse(int,int) IndexOutOfBoundsException", "long weight(int) IndexOutOfBoundsException",
        "int rest(int,int) IndexOutOfBoundsException", "int digit(int,int) IndexOutOfBoundsException",
        "long part(int,int) IndexOutOfBoundsException", "int rank(int) IndexOutOfBoundsException",
        "long value(int) IndexOutOfBoundsException", "long number(int) IndexOutOfBoundsException",
        "boolean isSound(int) IndexOutOfBoundsException", "int compare(int,int) IndexOutOfBoundsException",
        "int extend(int,int,boolean) IndexOutOfBoundsException IllegalArgumentException", "long gap()",
        "int distance(int,int) IndexOutOfBoundsException",
        "long exact(int,int,int) IllegalArgumentException IndexOutOfBoundsException IllegalStateException",
        "int why(int,int,int) IllegalArgumentException IndexOutOfBoundsException",
        "int faults(int) IndexOutOfBoundsException",
        "long numberWith(int,int,int) IndexOutOfBoundsException IllegalArgumentException",
        "int nextModulus()", "int spare()", "int greatest()", "double mean()", "float zeroShare()",
        "int set(int,int) IndexOutOfBoundsException IllegalArgumentException",
        "int hurt(int,int,int) IndexOutOfBoundsException IllegalArgumentException",
        "int operate(int,int,int,int) IllegalArgumentException IndexOutOfBoundsException",
        "int scale(int,int) IndexOutOfBoundsException", "int mend(int) IndexOutOfBoundsException",
        "int swap(int,int) IndexOutOfBoundsException", "int grow(int) IllegalArgumentException",
        "int drop(int) IndexOutOfBoundsException", "int setStrict(int) IllegalArgumentException",
        "int undo() NoSuchElementException", "int printRegister(int) IndexOutOfBoundsException", "int printModuli()",
        "int outputByte(int)", "int saveState()", "int restoreState() NoSuchElementException",
    };
    private static final String[] CONSTANTS = {
        "NONE = -1", "NO_ERROR = 0", "SYNTAX = 1", "OUT_OF_RANGE = 2", "REPEATED = 3", "COMMON = 4", "TOO_MANY = 5",
    };

    private static int wrong = 0;

    private static void due(String what, Object got, Object want) {
        if (!got.equals(want)) {
            wrong++;
            System.out.println(what + " answered " + got + ", due is " + want);
        }
    }

    private static String told(Method method) {
        StringBuilder text = new StringBuilder();
        text.append(method.getReturnType()).append(' ').append(method.getName()).append('(');
        for (int k = 0; k < method.getParameterCount(); k++) {
            text.append(k == 0 ? "" : ",").append(method.getParameterTypes()[k]);
        }
        text.append(')');
        for (Class<?> one : method.getExceptionTypes()) {
            text.append(' ').append(one.getSimpleName());
        }
        return text.toString();
    }

    public static void main(String[] args) throws IllegalAccessException {
        Set<String> methods = new TreeSet<>();
        Set<String> publicNames = new HashSet<>();
        for (Method method : RestMill.class.getDeclaredMethods()) {
            if (!Modifier.isPrivate(method.getModifiers()) && !method.isSynthetic()) {
                methods.add((Modifier.isPublic(method.getModifiers()) ? "" : "NOT PUBLIC ") + told(method));
                publicNames.add(method.getName());
            }
        }
        due("the methods", methods, new TreeSet<>(Arrays.asList(FACE)));
        Set<String> constants = new TreeSet<>();
        for (Field field : RestMill.class.getDeclaredFields()) {
            int modifiers = field.getModifiers();
            if (!Modifier.isPrivate(modifiers)) {
                constants.add(field.getName() + " = " + field.get(null));
            }
            due(field + " is final where it is static", Modifier.isStatic(modifiers) && !Modifier.isFinal(modifiers), false);
        }
        due("the constants", constants, new TreeSet<>(Arrays.asList(CONSTANTS)));
        Constructor<?>[] constructors = RestMill.class.getDeclaredConstructors();
        due("how many constructors", constructors.length, 1);
        due("the constructor is public", Modifier.isPublic(constructors[0].getModifiers()), true);
        due("its parameters", constructors[0].getParameterCount(), 0);
        due("the class is public and final", RestMill.class.getModifiers() & (Modifier.PUBLIC | Modifier.FINAL), Modifier.PUBLIC | Modifier.FINAL);
        Class<?>[] inside = RestMill.class.getDeclaredClasses();
        due("at most twelve classes", inside.length + 1 <= 12, true);
        for (Class<?> one : inside) {
            due(one + " is static", Modifier.isStatic(one.getModifiers()), true);
            due(one + " is not public", Modifier.isPublic(one.getModifiers()) || Modifier.isProtected(one.getModifiers()), false);
            due(one + " has at most twenty fields", one.getDeclaredFields().length <= 20, true);
            for (Method method : one.getDeclaredMethods()) {
                due(method + " bears the name of a public one", publicNames.contains(method.getName()), false);
                due(method + " has at most seven parameters", method.getParameterCount() <= 7, true);
            }
        }
        System.out.println(wrong == 0 ? "the face is as due" : wrong + " answers are not as due");
        if (wrong != 0) {
            System.exit(1);
        }
    }
}
