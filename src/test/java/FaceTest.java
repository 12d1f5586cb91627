import java.lang.reflect.Constructor;
import java.lang.reflect.Field;
import java.lang.reflect.Method;
import java.lang.reflect.Modifier;
import java.util.ArrayList;
import java.util.Arrays;
import java.util.HashSet;
import java.util.List;
import java.util.Set;

/** The public face, to the letter, and rule 1 of the language. */
public final class FaceTest {
    private static final String INDEX = " IndexOutOfBoundsException";
    private static final String RANGE = " IllegalArgumentException";
    private static final String STATE = " IllegalStateException";
    private static final String[] FACE = {
        "int setSize(int, int)" + RANGE,
        "int set(int, int, int)" + INDEX + RANGE,
        "int setJob(int, int, int)" + INDEX + RANGE,
        "int swapJobs(int, int)" + INDEX,
        "int transpose()",
        "int jobs()",
        "int machines()",
        "int time(int, int)" + INDEX,
        "int jobTotal(int)" + INDEX,
        "int machineTotal(int)" + INDEX,
        "int total()",
        "int bound()",
        "int boundByFlow()",
        "int filled(int, int)" + INDEX,
        "int slices()",
        "int sliceStart(int)" + INDEX,
        "int sliceLength(int)" + INDEX,
        "int machineIn(int, int)" + INDEX,
        "int jobAt(int, int)" + INDEX,
        "int done(int, int, int)" + INDEX,
        "int finishOf(int)" + INDEX,
        "int interruptions()",
        "int denseLength()",
        "int denseStart(int, int)" + INDEX,
        "int alternateLength()" + STATE,
        "int alternateStart(int, int)" + INDEX + STATE,
        "int rounded(int, int, int)" + INDEX + RANGE,
        "int roundedTotal(int)" + RANGE,
        "int roundedUp(int)" + RANGE,
        "double meanFinish()",
    };

    public static void main(String[] args) {
        Check.same("NONE", OpenShop.NONE, -1);
        Check.same("the class", OpenShop.class.getModifiers(), Modifier.PUBLIC | Modifier.FINAL);
        sameMethods();
        sameFieldsAndConstructors();
        classesInside();
        Check.end("FaceTest");
    }

    private static void sameMethods() {
        List<String> got = new ArrayList<>();
        Set<String> publicNames = new HashSet<>();
        for (Method method : OpenShop.class.getDeclaredMethods()) {
            if (!Modifier.isPrivate(method.getModifiers())) {
                Check.same("the modifiers of " + method, method.getModifiers(), Modifier.PUBLIC);
                got.add(written(method));
                publicNames.add(method.getName());
            }
        }
        for (String due : FACE) {
            Check.holds(due + " in the face", got.contains(due));
        }
        Check.same("how many methods the face has", got.size(), FACE.length);
        for (Method method : OpenShop.class.getDeclaredMethods()) {
            Check.holds("a name of its own for " + method,
                    Modifier.isPublic(method.getModifiers())
                            || !publicNames.contains(method.getName()));
        }
    }

    private static String written(Method method) {
        StringBuilder text = new StringBuilder();
        text.append(method.getReturnType()).append(' ').append(method.getName()).append('(');
        for (Class<?> parameter : method.getParameterTypes()) {
            text.append(text.charAt(text.length() - 1) == '(' ? "" : ", ").append(parameter);
        }
        text.append(')');
        for (Class<?> thrown : method.getExceptionTypes()) {
            text.append(' ').append(thrown.getSimpleName());
        }
        return text.toString();
    }

    private static void sameFieldsAndConstructors() {
        List<String> open = new ArrayList<>();
        for (Field field : OpenShop.class.getDeclaredFields()) {
            if (!Modifier.isPrivate(field.getModifiers())) {
                open.add(Modifier.toString(field.getModifiers()) + " " + field.getName());
            }
            Check.holds("final if static: " + field, !Modifier.isStatic(field.getModifiers())
                    || Modifier.isFinal(field.getModifiers()));
        }
        Check.holds("only NONE is open: " + open,
                open.equals(Arrays.asList("public static final NONE")));
        Constructor<?>[] made = OpenShop.class.getDeclaredConstructors();
        Check.same("how many constructors", made.length, 1);
        Check.same("the constructor", made[0].getModifiers(), Modifier.PUBLIC);
        Check.same("its parameters", made[0].getParameterCount(), 0);
    }

    private static void classesInside() {
        for (Class<?> inside : OpenShop.class.getDeclaredClasses()) {
            int modifiers = inside.getModifiers();
            Check.holds("private or package-visible, and static: " + inside,
                    Modifier.isStatic(modifiers) && !Modifier.isPublic(modifiers)
                            && !Modifier.isProtected(modifiers));
        }
    }
}
