import java.lang.reflect.Constructor;
import java.lang.reflect.Field;
import java.lang.reflect.Method;
import java.lang.reflect.Modifier;
import java.util.Set;
import java.util.TreeSet;

/** The class has the document's face and no other member that can be seen from outside. */
public final class FaceTest {
    private static int wrong;

    public static void main(String[] args) {
        Class<?> face = ResidualJudge.class;
        same("class", Modifier.toString(face.getModifiers()), "public final");
        Set<String> methods = new TreeSet<>();
        for (Method method : face.getDeclaredMethods()) {
            if (!Modifier.isPrivate(method.getModifiers())) {
                methods.add(Modifier.toString(method.getModifiers()) + " " + method.getReturnType() + " "
                        + method.getName() + method.getParameterCount());
            } else if (isFaceName(method.getName())) {
                wrong("private " + method.getName());
            }
        }
        same("methods", methods.toString(), "[public int back0, public int begins1, public int clear0, "
                + "public int clears1, public int judge1, public int mark0, public int now1, public int of2, "
                + "public int reads0, public int rows2, public int steps1, public int told1, public int type1, "
                + "public long digest0]");
        Set<String> fields = new TreeSet<>();
        for (Field field : face.getDeclaredFields()) {
            if (!Modifier.isPrivate(field.getModifiers())) {
                fields.add(Modifier.toString(field.getModifiers()) + " " + field.getType() + " " + field.getName());
            }
        }
        same("fields", fields.toString(), "[public static final int BAD, public static final int FULL, "
                + "public static final int NO, public static final int NONE]");
        Constructor<?>[] constructors = face.getDeclaredConstructors();
        same("constructors", constructors.length + " " + constructors[0], "1 public ResidualJudge()");
        same("constants", ResidualJudge.NONE + " " + ResidualJudge.BAD + " " + ResidualJudge.NO + " "
                + ResidualJudge.FULL, "-1 -2 -3 -4");
        for (Class<?> inside : face.getDeclaredClasses()) {
            if (!Modifier.isStatic(inside.getModifiers()) || Modifier.isPublic(inside.getModifiers())) {
                wrong("class inside: " + inside);
            }
            for (Method method : inside.getDeclaredMethods()) {
                if (isFaceName(method.getName())) {
                    wrong("the name of " + method);
                }
            }
        }
        System.out.println("FaceTest: " + wrong + " things not as due");
        if (wrong != 0) {
            System.exit(1);
        }
    }

    private static boolean isFaceName(String name) {
        for (Method method : ResidualJudge.class.getMethods()) {
            if (method.getDeclaringClass() == ResidualJudge.class && method.getName().equals(name)) {
                return true;
            }
        }
        return false;
    }

    private static void same(String what, String got, String want) {
        if (!got.equals(want)) {
            wrong(what + ": " + got + ", due is " + want);
        }
    }

    private static void wrong(String what) {
        wrong++;
        System.out.println(what);
    }
}
