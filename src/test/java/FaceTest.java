import java.lang.reflect.Constructor;
import java.lang.reflect.Field;
import java.lang.reflect.Method;
import java.lang.reflect.Modifier;
import java.util.ArrayList;
import java.util.List;
import java.util.TreeSet;

/** The class has the members of the document's public face, and no others that are not private. */
public final class FaceTest {
    private static final String I = "IndexOutOfBoundsException";
    private static final String IA = I + " IllegalArgumentException";
    private static final String IS = I + " IllegalStateException";
    private static final String IM = I + " ArithmeticException";
    private static final String IAS = IA + " IllegalStateException";
    private static final String IMS = IM + " IllegalStateException";
    private static final String IMN = IM + " NoSuchElementException";
    private static final String IAM = IA + " ArithmeticException";
    private static final String IAMS = IAM + " IllegalStateException";

    private static final String[] FACE = {
        "int set(int int int) " + IA, "int coefficient(int int) " + I, "int degree(int) " + I,
        "int copy(int int) " + I, "int add(int int int) " + IS, "int multiply(int int int) " + IS,
        "int derivative(int int) " + IS, "int shift(int int int) " + IAS, "int reflect(int int) " + I,
        "int scale(int int int) " + IAS, "int gcd(int int int) " + IS, "int squareFreePart(int int) " + IMS,
        "int sturmLength(int) " + IM, "long sturmCoefficient(int int int) " + IMN,
        "int sturmDegree(int int) " + IMN, "int signChanges(int int int) " + IAM, "int sign(int int int) " + IA,
        "int countDistinct(int int int int int) " + IAMS, "int countAll(int int int int int) " + IAMS,
        "int distinctRoots(int) " + IM, "int coefficientSignChanges(int) " + I, "int isolate(int) " + IM,
        "int intervals() ", "int rootsIn(int) " + I, "int interval(int char) " + IA, "int bisect(int) " + IS,
        "int refine(int int) " + IAS, "int removeEmpty() ", "int multiplicity(int) " + IS,
        "boolean isTrue(int) " + I, "long checksum() ",
    };

    private static int wrong = 0;

    private static void fail(String text) {
        wrong++;
        System.out.println(text);
    }

    private static String names(Class<?>[] types) {
        List<String> names = new ArrayList<>();
        for (Class<?> type : types) {
            names.add(type.getSimpleName());
        }
        return String.join(" ", names);
    }

    private static void checkMethods() {
        TreeSet<String> missing = new TreeSet<>(List.of(FACE));
        TreeSet<String> names = new TreeSet<>();
        for (Method method : SturmRoots.class.getDeclaredMethods()) {
            if (Modifier.isPrivate(method.getModifiers()) || method.isSynthetic()) {
                continue;
            }
            names.add(method.getName());
            String found = method.getReturnType().getSimpleName() + " " + method.getName() + "("
                    + names(method.getParameterTypes()) + ") " + names(method.getExceptionTypes());
            if (method.getModifiers() != Modifier.PUBLIC || !missing.remove(found)) {
                fail("not of the face: " + found);
            }
        }
        for (String text : missing) {
            fail("missing: " + text);
        }
        List<Class<?>> classes = new ArrayList<>(List.of(SturmRoots.class.getDeclaredClasses()));
        classes.add(SturmRoots.class);
        for (Class<?> type : classes) {
            for (Method method : type.getDeclaredMethods()) {
                boolean ofFace = type == SturmRoots.class && Modifier.isPublic(method.getModifiers());
                if (!ofFace && names.contains(method.getName())) {
                    fail("bears the name of a method of the face: " + type.getName() + "." + method.getName());
                }
            }
        }
    }

    private static void checkRest() {
        Class<?> type = SturmRoots.class;
        if (type.getModifiers() != (Modifier.PUBLIC | Modifier.FINAL) || type.getPackageName().length() != 0) {
            fail("the class is not public and final, without a package");
        }
        Constructor<?>[] constructors = type.getDeclaredConstructors();
        if (constructors.length != 1 || constructors[0].getModifiers() != Modifier.PUBLIC
                || constructors[0].getParameterCount() != 0) {
            fail("the constructors are not the document's one");
        }
        for (Field field : type.getDeclaredFields()) {
            if (!Modifier.isPrivate(field.getModifiers())) {
                fail("not private: " + field);
            }
            if (Modifier.isStatic(field.getModifiers()) && !Modifier.isFinal(field.getModifiers())) {
                fail("static and not final: " + field);
            }
        }
        for (Class<?> inner : type.getDeclaredClasses()) {
            if (!Modifier.isStatic(inner.getModifiers()) || Modifier.isPublic(inner.getModifiers())
                    || Modifier.isProtected(inner.getModifiers())) {
                fail("neither private nor package-visible, and static: " + inner);
            }
        }
    }

    public static void main(String[] args) {
        checkMethods();
        checkRest();
        System.out.println(wrong == 0 ? "the face is as due" : wrong + " members are not as due");
        if (wrong != 0) {
            System.exit(1);
        }
    }
}
